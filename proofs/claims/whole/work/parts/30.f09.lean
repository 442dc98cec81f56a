theorem hc_X12_trust : ci_code (ci_Ms 246) = k_X12_trust := rfl
theorem fe_X12_trust {pc : Nat} {w : Option ci_I} (h : (k_X12_trust)[pc]? = some w) : (k_X12_trust)[pc]? = some w := h
def b_X12_trust_86 (r_38 : Int32 → Int32 → Int32 → ci_H → Option (Int32 × ci_H)) (l0 : Nat) (l1 : Int32) (l2 : Int32) (l3 : Int32) (l4 : Int32) (l5 : Int32)  (h : ci_H) : Option (Int32 × ci_H) := r_38 l3 l4 (l5 + 1) h
set_option maxHeartbeats 4000000 in
set_option maxRecDepth 20000 in
theorem eb_X12_trust_86 {xs : Nat → Int32} {N d : Nat} {nx : ci_N} {r_38 : Int32 → Int32 → Int32 → ci_H → Option (Int32 × ci_H)} {l0 : Nat} {l1 : Int32} {l2 : Int32} {l3 : Int32} {l4 : Int32} {l5 : Int32} (hd : 105 ≤ d) (h_38 : ∀ (l3 : Int32) (l4 : Int32) (l5 : Int32) (h : ci_H) (r : Int32 × ci_H), r_38 l3 l4 l5 h = some r → Ev xs N (d + 1) 246 38 [.ref l0, .int l1, .int l2, .int l3, .int l4, .int l5] [] h nx (oI r nx)) {h : ci_H} {r : Int32 × ci_H} (H : b_X12_trust_86 r_38 l0 l1 l2 l3 l4 l5 h = some r) : Ev xs N (d + 1) 246 86 [.ref l0, .int l1, .int l2, .int l3, .int l4, .int l5] [] h nx (oI r nx) := by
  unfold b_X12_trust_86 at H
  refine ev_go hc_X12_trust (k := 2) (pc' := 38) (L' := [.ref l0, .int l1, .int l2, .int l3, .int l4, .int (l5 + 1)]) (S' := []) rfl ?_
  exact Ev.weak (ci_le_c (Or.inr rfl) (ci_le_c (Or.inr rfl) (ci_le_c (Or.inr rfl) (ci_le_c (Or.inr rfl) (ci_le_c (Or.inr rfl) (ci_le_c (Or.inr rfl) (ci_le_n))))))) (h_38 _ _ _ _ _ H)
def b_X12_trust_38 (l0 : Nat) (l1 : Int32) (l2 : Int32) : Nat → Int32 → Int32 → Int32 → ci_H → Option (Int32 × ci_H)
  | 0, _, _, _, _ => none
  | n + 1, l3, l4, l5, h => (gI h l0 12 2).bind fun v1 => if v1 ≤ l5 then ((pF h l0 12 10 (.int 0)).bind fun h3 => (F_X12_tell l0 ((l2 : Int32).toInt64) h3).bind fun h4 => (F_X12_tell l0 ((l4 : Int32).toInt64) h4).bind fun h5 => some (l3, h5)) else ((F_X12_has l2 l5 h).bind fun q6 => if q6.1 = 0 then (b_X12_trust_86 (fun x0 x1 x2 x3 => b_X12_trust_38 l0 l1 l2 n x0 x1 x2 x3) l0 l1 l2 l3 l4 l5 q6.2) else ((gR q6.2 l0 12 0).bind fun v8 => (rI q6.2 v8 (24 + l5)).bind fun v9 => (F_X12_worthOf l0 l5 l1 q6.2).bind fun q10 => b_X12_trust_86 (fun x0 x1 x2 x3 => b_X12_trust_38 l0 l1 l2 n x0 x1 x2 x3) l0 l1 l2 (l3 ||| ((1 : Int32) <<< (v9 &&& 31))) (l4 + q10.1) l5 q10.2))
set_option maxHeartbeats 4000000 in
set_option maxRecDepth 20000 in
theorem eb_X12_trust_38 {xs : Nat → Int32} {N d : Nat} {nx : ci_N} {l0 : Nat} {l1 : Int32} {l2 : Int32} (hd : 105 ≤ d) : ∀ (n : Nat) (l3 : Int32) (l4 : Int32) (l5 : Int32) (h : ci_H) (r : Int32 × ci_H), b_X12_trust_38 l0 l1 l2 n l3 l4 l5 h = some r → Ev xs N (d + 1) 246 38 [.ref l0, .int l1, .int l2, .int l3, .int l4, .int l5] [] h nx (oI r nx) := by
  intro n
  induction n with
  | zero => intro l3 l4 l5 h r H; unfold b_X12_trust_38 at H; cases H
  | succ n ih =>
    intro l3 l4 l5 h r H
    unfold b_X12_trust_38 at H
    refine ev_go hc_X12_trust (k := 2) (pc' := 41) (L' := [.ref l0, .int l1, .int l2, .int l3, .int l4, .int l5]) (S' := [.ref l0, .int l5]) rfl ?_
    obtain ⟨v1, ev1, H⟩ := Option.bind_eq_some_iff.mp H
    refine ev_4 hc_X12_trust (fe_X12_trust (pc := 41) rfl) (gI_gf ev1) ?_
    by_cases c2 : v1 ≤ l5
    · rw [if_pos c2] at H
      refine ev_bt hc_X12_trust (fe_X12_trust (pc := 44) rfl) rfl c2 ?_
      refine ev_go hc_X12_trust (k := 2) (pc' := 94) (L' := [.ref l0, .int l1, .int l2, .int l3, .int l4, .int l5]) (S' := [.int 0, .ref l0]) rfl ?_
      obtain ⟨h3, eh3, H⟩ := Option.bind_eq_some_iff.mp H
      refine ev_5 hc_X12_trust (fe_X12_trust (pc := 94) rfl) (pF_pf eh3) ?_
      refine ev_go hc_X12_trust (k := 3) (pc' := 100) (L' := [.ref l0, .int l1, .int l2, .int l3, .int l4, .int l5]) (S' := [.long ((l2 : Int32).toInt64), .ref l0]) rfl ?_
      obtain ⟨h4, eh4, H⟩ := Option.bind_eq_some_iff.mp H
      refine ev_call (vs := [.ref l0, .long ((l2 : Int32).toInt64)]) (rest := []) (q := q_X12_tell) hc_X12_trust (Or.inr rfl) (fe_X12_trust (pc := 100) rfl) ms_173 rfl rfl (Nat.le_of_ble_eq_true rfl) (kO_recv (K_X12_tell eh4)) (E_X12_tell eh4 (by omega)) rfl ?_
      show Ev xs N (d + 1) 246 103 [.ref l0, .int l1, .int l2, .int l3, .int l4, .int l5] [] h4 nx _
      refine ev_go hc_X12_trust (k := 3) (pc' := 107) (L' := [.ref l0, .int l1, .int l2, .int l3, .int l4, .int l5]) (S' := [.long ((l4 : Int32).toInt64), .ref l0]) rfl ?_
      obtain ⟨h5, eh5, H⟩ := Option.bind_eq_some_iff.mp H
      refine ev_call (vs := [.ref l0, .long ((l4 : Int32).toInt64)]) (rest := []) (q := q_X12_tell) hc_X12_trust (Or.inr rfl) (fe_X12_trust (pc := 107) rfl) ms_173 rfl rfl (Nat.le_of_ble_eq_true rfl) (kO_recv (K_X12_tell eh5)) (E_X12_tell eh5 (by omega)) rfl ?_
      show Ev xs N (d + 1) 246 110 [.ref l0, .int l1, .int l2, .int l3, .int l4, .int l5] [] h5 nx _
      refine ev_go hc_X12_trust (k := 1) (pc' := 111) (L' := [.ref l0, .int l1, .int l2, .int l3, .int l4, .int l5]) (S' := [.int l3]) rfl ?_
      obtain rfl := Option.some.inj H
      exact ev_8 hc_X12_trust (fe_X12_trust (pc := 111) rfl) rfl
    · rw [if_neg c2] at H
      refine ev_bf hc_X12_trust (fe_X12_trust (pc := 44) rfl) rfl c2 ?_
      refine ev_go hc_X12_trust (k := 2) (pc' := 50) (L' := [.ref l0, .int l1, .int l2, .int l3, .int l4, .int l5]) (S' := [.int l5, .int l2]) rfl ?_
      obtain ⟨q6, eq6, H⟩ := Option.bind_eq_some_iff.mp H
      refine ev_call (vs := [.int l2, .int l5]) (rest := []) (q := q_X12_has) hc_X12_trust (Or.inl rfl) (fe_X12_trust (pc := 50) rfl) ms_171 rfl rfl (Nat.le_of_ble_eq_true rfl) rfl (E_X12_has eq6 (by omega)) rfl ?_
      show Ev xs N (d + 1) 246 53 [.ref l0, .int l1, .int l2, .int l3, .int l4, .int l5] [.int q6.1] q6.2 nx _
      by_cases c7 : q6.1 = 0
      · rw [if_pos c7] at H
        refine ev_bt hc_X12_trust (fe_X12_trust (pc := 53) rfl) rfl c7 ?_
        refine ev_go hc_X12_trust (k := 1) (pc' := 86) (L' := [.ref l0, .int l1, .int l2, .int l3, .int l4, .int l5]) (S' := []) rfl ?_
        exact Ev.weak (ci_le_c (Or.inr rfl) (ci_le_c (Or.inr rfl) (ci_le_c (Or.inr rfl) (ci_le_c (Or.inr rfl) (ci_le_c (Or.inr rfl) (ci_le_c (Or.inr rfl) (ci_le_n))))))) (eb_X12_trust_86 hd ih H)
      · rw [if_neg c7] at H
        refine ev_bf hc_X12_trust (fe_X12_trust (pc := 53) rfl) rfl c7 ?_
        refine ev_go hc_X12_trust (k := 3) (pc' := 62) (L' := [.ref l0, .int l1, .int l2, .int l3, .int l4, .int l5]) (S' := [.ref l0, .int 1, .int l3]) rfl ?_
        obtain ⟨v8, ev8, H⟩ := Option.bind_eq_some_iff.mp H
        refine ev_4 hc_X12_trust (fe_X12_trust (pc := 62) rfl) (gR_gf ev8) ?_
        refine ev_go hc_X12_trust (k := 3) (pc' := 70) (L' := [.ref l0, .int l1, .int l2, .int l3, .int l4, .int l5]) (S' := [.int (24 + l5), .ref v8, .int 1, .int l3]) rfl ?_
        obtain ⟨v9, ev9, H⟩ := Option.bind_eq_some_iff.mp H
        refine ev_4 hc_X12_trust (fe_X12_trust (pc := 70) rfl) (rI_al ev9) ?_
        refine ev_go hc_X12_trust (k := 7) (pc' := 80) (L' := [.ref l0, .int l1, .int l2, .int (l3 ||| ((1 : Int32) <<< (v9 &&& 31))), .int l4, .int l5]) (S' := [.int l1, .int l5, .ref l0, .int l4]) rfl ?_
        obtain ⟨q10, eq10, H⟩ := Option.bind_eq_some_iff.mp H
        refine ev_call (vs := [.ref l0, .int l5, .int l1]) (rest := [.int l4]) (q := q_X12_worthOf) hc_X12_trust (Or.inr rfl) (fe_X12_trust (pc := 80) rfl) ms_208 rfl rfl (Nat.le_of_ble_eq_true rfl) (kO_recv (K_X12_worthOf eq10)) (E_X12_worthOf eq10 (by omega)) rfl ?_
        show Ev xs N (d + 1) 246 83 [.ref l0, .int l1, .int l2, .int (l3 ||| ((1 : Int32) <<< (v9 &&& 31))), .int l4, .int l5] [.int q10.1, .int l4] q10.2 nx _
        refine ev_go hc_X12_trust (k := 2) (pc' := 86) (L' := [.ref l0, .int l1, .int l2, .int (l3 ||| ((1 : Int32) <<< (v9 &&& 31))), .int (l4 + q10.1), .int l5]) (S' := []) rfl ?_
        exact Ev.weak (ci_le_c (Or.inr rfl) (ci_le_c (Or.inr rfl) (ci_le_c (Or.inr rfl) (ci_le_c (Or.inr rfl) (ci_le_c (Or.inr rfl) (ci_le_c (Or.inr rfl) (ci_le_n))))))) (eb_X12_trust_86 hd ih H)
def F_X12_trust (a0 : Nat) (a1 : Int32) (h : ci_H) : Option (Int32 × ci_H) := if kO h a0 = some 12 then ((pF h a0 12 11 (.int 0)).bind fun h1 => (F_X12_isHouse a0 a1 h1).bind fun q2 => if q2.1 = 0 then (some ((-1), q2.2)) else ((F_X12_lentBits a0 q2.2).bind fun q4 => (gR q4.2 a0 12 0).bind fun v5 => (F_X12_ownedBy a0 v5 a1 q4.2).bind fun q6 => b_X12_trust_38 a0 a1 (q4.1 &&& q6.1) bigN 0 0 0 q6.2)) else none
theorem K_X12_trust {a0 : Nat} {a1 : Int32} {h : ci_H} {r : Int32 × ci_H} (H : F_X12_trust a0 a1 h = some r) : kO h a0 = some 12 := by
  unfold F_X12_trust at H
  by_cases c : kO h a0 = some 12
  · exact c
  · rw [if_neg c] at H; cases H
set_option maxHeartbeats 4000000 in
set_option maxRecDepth 20000 in
theorem E_X12_trust {xs : Nat → Int32} {N d : Nat} {nx : ci_N} {a0 : Nat} {a1 : Int32} {h : ci_H} {r : Int32 × ci_H} (H : F_X12_trust a0 a1 h = some r) (hd : 106 ≤ d) : Ev xs N d 246 0 (ci_entry [.ref a0, .int a1] 6) [] h nx (oI r nx) := by
  obtain ⟨d, rfl⟩ : ∃ d2, d = d2 + 1 := ⟨d - 1, by omega⟩
  have hd : 105 ≤ d := by omega
  unfold F_X12_trust at H
  by_cases ck : kO h a0 = some 12
  · rw [if_pos ck] at H
    show Ev xs N (d + 1) 246 0 [.ref a0, .int a1, ci_junk, ci_junk, ci_junk, ci_junk] [] h nx _
    refine ev_go hc_X12_trust (k := 2) (pc' := 2) (L' := [.ref a0, .int a1, ci_junk, ci_junk, ci_junk, ci_junk]) (S' := [.int 0, .ref a0]) rfl ?_
    obtain ⟨h1, eh1, H⟩ := Option.bind_eq_some_iff.mp H
    refine ev_5 hc_X12_trust (fe_X12_trust (pc := 2) rfl) (pF_pf eh1) ?_
    refine ev_go hc_X12_trust (k := 2) (pc' := 7) (L' := [.ref a0, .int a1, ci_junk, ci_junk, ci_junk, ci_junk]) (S' := [.int a1, .ref a0]) rfl ?_
    obtain ⟨q2, eq2, H⟩ := Option.bind_eq_some_iff.mp H
    refine ev_call (vs := [.ref a0, .int a1]) (rest := []) (q := q_X12_isHouse) hc_X12_trust (Or.inr rfl) (fe_X12_trust (pc := 7) rfl) ms_175 rfl rfl (Nat.le_of_ble_eq_true rfl) (kO_recv (K_X12_isHouse eq2)) (E_X12_isHouse eq2 (by omega)) rfl ?_
    show Ev xs N (d + 1) 246 10 [.ref a0, .int a1, ci_junk, ci_junk, ci_junk, ci_junk] [.int q2.1] q2.2 nx _
    by_cases c3 : q2.1 = 0
    · rw [if_pos c3] at H
      refine ev_bt hc_X12_trust (fe_X12_trust (pc := 10) rfl) rfl c3 ?_
      refine ev_go hc_X12_trust (k := 1) (pc' := 14) (L' := [.ref a0, .int a1, ci_junk, ci_junk, ci_junk, ci_junk]) (S' := [.int ((-1))]) rfl ?_
      obtain rfl := Option.some.inj H
      exact ev_8 hc_X12_trust (fe_X12_trust (pc := 14) rfl) rfl
    · rw [if_neg c3] at H
      refine ev_bf hc_X12_trust (fe_X12_trust (pc := 10) rfl) rfl c3 ?_
      refine ev_go hc_X12_trust (k := 1) (pc' := 16) (L' := [.ref a0, .int a1, ci_junk, ci_junk, ci_junk, ci_junk]) (S' := [.ref a0]) rfl ?_
      obtain ⟨q4, eq4, H⟩ := Option.bind_eq_some_iff.mp H
      refine ev_call (vs := [.ref a0]) (rest := []) (q := q_X12_lentBits) hc_X12_trust (Or.inr rfl) (fe_X12_trust (pc := 16) rfl) ms_209 rfl rfl (Nat.le_of_ble_eq_true rfl) (kO_recv (K_X12_lentBits eq4)) (E_X12_lentBits eq4 (by omega)) rfl ?_
      show Ev xs N (d + 1) 246 19 [.ref a0, .int a1, ci_junk, ci_junk, ci_junk, ci_junk] [.int q4.1] q4.2 nx _
      refine ev_go hc_X12_trust (k := 2) (pc' := 21) (L' := [.ref a0, .int a1, ci_junk, ci_junk, ci_junk, ci_junk]) (S' := [.ref a0, .ref a0, .int q4.1]) rfl ?_
      obtain ⟨v5, ev5, H⟩ := Option.bind_eq_some_iff.mp H
      refine ev_4 hc_X12_trust (fe_X12_trust (pc := 21) rfl) (gR_gf ev5) ?_
      refine ev_go hc_X12_trust (k := 1) (pc' := 25) (L' := [.ref a0, .int a1, ci_junk, ci_junk, ci_junk, ci_junk]) (S' := [.int a1, .ref v5, .ref a0, .int q4.1]) rfl ?_
      obtain ⟨q6, eq6, H⟩ := Option.bind_eq_some_iff.mp H
      refine ev_call (vs := [.ref a0, .ref v5, .int a1]) (rest := [.int q4.1]) (q := q_X12_ownedBy) hc_X12_trust (Or.inr rfl) (fe_X12_trust (pc := 25) rfl) ms_203 rfl rfl (Nat.le_of_ble_eq_true rfl) (kO_recv (K_X12_ownedBy eq6)) (E_X12_ownedBy eq6 (by omega)) rfl ?_
      show Ev xs N (d + 1) 246 28 [.ref a0, .int a1, ci_junk, ci_junk, ci_junk, ci_junk] [.int q6.1, .int q4.1] q6.2 nx _
      refine ev_go hc_X12_trust (k := 8) (pc' := 38) (L' := [.ref a0, .int a1, .int (q4.1 &&& q6.1), .int 0, .int 0, .int 0]) (S' := []) rfl ?_
      exact Ev.weak (ci_le_c (Or.inr rfl) (ci_le_c (Or.inr rfl) (ci_le_c (Or.inr rfl) (ci_le_c (Or.inr rfl) (ci_le_c (Or.inr rfl) (ci_le_c (Or.inr rfl) (ci_le_n))))))) (eb_X12_trust_38 hd bigN _ _ _ _ _ H)
  · rw [if_neg ck] at H; cases H
theorem hc_X12_visit : ci_code (ci_Ms 247) = k_X12_visit := rfl
theorem fe_X12_visit {pc : Nat} {w : Option ci_I} (h : (k_X12_visit)[pc]? = some w) : (k_X12_visit)[pc]? = some w := h
def b_X12_visit_29 (l0 : Nat) (l1 : Int32) : Nat → Int32 → ci_H → Option (Int32 × ci_H)
  | 0, _, _ => none
  | n + 1, l2, h => (gR h l0 12 25).bind fun v1 => (rI h v1 41).bind fun v2 => (gI h l0 12 1).bind fun v3 => (rmI v2 v3).bind fun v4 => if v4 = l1 then ((pF h l0 12 10 (.int 0)).bind fun h6 => (gR h6 l0 12 25).bind fun v7 => (F_X12_goHour l0 v7 h6).bind fun q8 => (F_X12_tell l0 ((q8.1 : Int32).toInt64) q8.2).bind fun h9 => some (l2, h9)) else ((gR h l0 12 25).bind fun v10 => (F_X12_goHour l0 v10 h).bind fun q11 => b_X12_visit_29 l0 l1 n (l2 + 1) q11.2)
set_option maxHeartbeats 4000000 in
set_option maxRecDepth 20000 in
theorem eb_X12_visit_29 {xs : Nat → Int32} {N d : Nat} {nx : ci_N} {l0 : Nat} {l1 : Int32} (hd : 2 ≤ d) : ∀ (n : Nat) (l2 : Int32) (h : ci_H) (r : Int32 × ci_H), b_X12_visit_29 l0 l1 n l2 h = some r → Ev xs N (d + 1) 247 29 [.ref l0, .int l1, .int l2] [] h nx (oI r nx) := by
  intro n
  induction n with
  | zero => intro l2 h r H; unfold b_X12_visit_29 at H; cases H
  | succ n ih =>
    intro l2 h r H
    unfold b_X12_visit_29 at H
    refine ev_go hc_X12_visit (k := 1) (pc' := 30) (L' := [.ref l0, .int l1, .int l2]) (S' := [.ref l0]) rfl ?_
    obtain ⟨v1, ev1, H⟩ := Option.bind_eq_some_iff.mp H
    refine ev_4 hc_X12_visit (fe_X12_visit (pc := 30) rfl) (gR_gf ev1) ?_
    refine ev_go hc_X12_visit (k := 1) (pc' := 35) (L' := [.ref l0, .int l1, .int l2]) (S' := [.int 41, .ref v1]) rfl ?_
    obtain ⟨v2, ev2, H⟩ := Option.bind_eq_some_iff.mp H
    refine ev_4 hc_X12_visit (fe_X12_visit (pc := 35) rfl) (rI_al ev2) ?_
    refine ev_go hc_X12_visit (k := 1) (pc' := 37) (L' := [.ref l0, .int l1, .int l2]) (S' := [.ref l0, .int v2]) rfl ?_
    obtain ⟨v3, ev3, H⟩ := Option.bind_eq_some_iff.mp H
    refine ev_4 hc_X12_visit (fe_X12_visit (pc := 37) rfl) (gI_gf ev3) ?_
    obtain ⟨v4, ev4, H⟩ := Option.bind_eq_some_iff.mp H
    refine ev_1 hc_X12_visit (fe_X12_visit (pc := 40) rfl) (rmI_st ev4) ?_
    refine ev_go hc_X12_visit (k := 1) (pc' := 42) (L' := [.ref l0, .int l1, .int l2]) (S' := [.int l1, .int v4]) rfl ?_
    by_cases c5 : v4 = l1
    · rw [if_pos c5] at H
      refine ev_bt hc_X12_visit (fe_X12_visit (pc := 42) rfl) rfl c5 ?_
      refine ev_go hc_X12_visit (k := 2) (pc' := 62) (L' := [.ref l0, .int l1, .int l2]) (S' := [.int 0, .ref l0]) rfl ?_
      obtain ⟨h6, eh6, H⟩ := Option.bind_eq_some_iff.mp H
      refine ev_5 hc_X12_visit (fe_X12_visit (pc := 62) rfl) (pF_pf eh6) ?_
      refine ev_go hc_X12_visit (k := 3) (pc' := 68) (L' := [.ref l0, .int l1, .int l2]) (S' := [.ref l0, .ref l0, .ref l0]) rfl ?_
      obtain ⟨v7, ev7, H⟩ := Option.bind_eq_some_iff.mp H
      refine ev_4 hc_X12_visit (fe_X12_visit (pc := 68) rfl) (gR_gf ev7) ?_
      obtain ⟨q8, eq8, H⟩ := Option.bind_eq_some_iff.mp H
      refine ev_call (vs := [.ref l0, .ref v7]) (rest := [.ref l0]) (q := q_X12_goHour) hc_X12_visit (Or.inr rfl) (fe_X12_visit (pc := 71) rfl) ms_233 rfl rfl (Nat.le_of_ble_eq_true rfl) (kO_recv (K_X12_goHour eq8)) (E_X12_goHour eq8 (by omega)) rfl ?_
      show Ev xs N (d + 1) 247 74 [.ref l0, .int l1, .int l2] [.int q8.1, .ref l0] q8.2 nx _
      refine ev_go hc_X12_visit (k := 1) (pc' := 75) (L' := [.ref l0, .int l1, .int l2]) (S' := [.long ((q8.1 : Int32).toInt64), .ref l0]) rfl ?_
      obtain ⟨h9, eh9, H⟩ := Option.bind_eq_some_iff.mp H
      refine ev_call (vs := [.ref l0, .long ((q8.1 : Int32).toInt64)]) (rest := []) (q := q_X12_tell) hc_X12_visit (Or.inr rfl) (fe_X12_visit (pc := 75) rfl) ms_173 rfl rfl (Nat.le_of_ble_eq_true rfl) (kO_recv (K_X12_tell eh9)) (E_X12_tell eh9 (by omega)) rfl ?_
      show Ev xs N (d + 1) 247 78 [.ref l0, .int l1, .int l2] [] h9 nx _
      refine ev_go hc_X12_visit (k := 1) (pc' := 79) (L' := [.ref l0, .int l1, .int l2]) (S' := [.int l2]) rfl ?_
      obtain rfl := Option.some.inj H
      exact ev_8 hc_X12_visit (fe_X12_visit (pc := 79) rfl) rfl
    · rw [if_neg c5] at H
      refine ev_bf hc_X12_visit (fe_X12_visit (pc := 42) rfl) rfl c5 ?_
      refine ev_go hc_X12_visit (k := 2) (pc' := 47) (L' := [.ref l0, .int l1, .int l2]) (S' := [.ref l0, .ref l0]) rfl ?_
      obtain ⟨v10, ev10, H⟩ := Option.bind_eq_some_iff.mp H
      refine ev_4 hc_X12_visit (fe_X12_visit (pc := 47) rfl) (gR_gf ev10) ?_
      obtain ⟨q11, eq11, H⟩ := Option.bind_eq_some_iff.mp H
      refine ev_call (vs := [.ref l0, .ref v10]) (rest := []) (q := q_X12_goHour) hc_X12_visit (Or.inr rfl) (fe_X12_visit (pc := 50) rfl) ms_233 rfl rfl (Nat.le_of_ble_eq_true rfl) (kO_recv (K_X12_goHour eq11)) (E_X12_goHour eq11 (by omega)) rfl ?_
      show Ev xs N (d + 1) 247 53 [.ref l0, .int l1, .int l2] [.int q11.1] q11.2 nx _
      refine ev_go hc_X12_visit (k := 3) (pc' := 29) (L' := [.ref l0, .int l1, .int (l2 + 1)]) (S' := []) rfl ?_
      exact Ev.weak (ci_le_c (Or.inr rfl) (ci_le_c (Or.inr rfl) (ci_le_c (Or.inr rfl) (ci_le_n)))) (ih _ _ _ H)
def F_X12_visit (a0 : Nat) (a1 : Int32) (h : ci_H) : Option (Int32 × ci_H) := if kO h a0 = some 12 then ((pF h a0 12 11 (.int 0)).bind fun h1 => (F_X12_isHouse a0 a1 h1).bind fun q2 => if q2.1 = 0 then (some ((-1), q2.2)) else ((gR q2.2 a0 12 0).bind fun v4 => (gR q2.2 a0 12 25).bind fun v5 => (F_X12_lay v4 v5 0 q2.2).bind fun h6 => b_X12_visit_29 a0 a1 bigN 0 h6)) else none
theorem K_X12_visit {a0 : Nat} {a1 : Int32} {h : ci_H} {r : Int32 × ci_H} (H : F_X12_visit a0 a1 h = some r) : kO h a0 = some 12 := by
  unfold F_X12_visit at H
  by_cases c : kO h a0 = some 12
  · exact c
  · rw [if_neg c] at H; cases H
set_option maxHeartbeats 4000000 in
set_option maxRecDepth 20000 in
theorem E_X12_visit {xs : Nat → Int32} {N d : Nat} {nx : ci_N} {a0 : Nat} {a1 : Int32} {h : ci_H} {r : Int32 × ci_H} (H : F_X12_visit a0 a1 h = some r) (hd : 3 ≤ d) : Ev xs N d 247 0 (ci_entry [.ref a0, .int a1] 3) [] h nx (oI r nx) := by
  obtain ⟨d, rfl⟩ : ∃ d2, d = d2 + 1 := ⟨d - 1, by omega⟩
  have hd : 2 ≤ d := by omega
  unfold F_X12_visit at H
  by_cases ck : kO h a0 = some 12
  · rw [if_pos ck] at H
    show Ev xs N (d + 1) 247 0 [.ref a0, .int a1, ci_junk] [] h nx _
    refine ev_go hc_X12_visit (k := 2) (pc' := 2) (L' := [.ref a0, .int a1, ci_junk]) (S' := [.int 0, .ref a0]) rfl ?_
    obtain ⟨h1, eh1, H⟩ := Option.bind_eq_some_iff.mp H
    refine ev_5 hc_X12_visit (fe_X12_visit (pc := 2) rfl) (pF_pf eh1) ?_
    refine ev_go hc_X12_visit (k := 2) (pc' := 7) (L' := [.ref a0, .int a1, ci_junk]) (S' := [.int a1, .ref a0]) rfl ?_
    obtain ⟨q2, eq2, H⟩ := Option.bind_eq_some_iff.mp H
    refine ev_call (vs := [.ref a0, .int a1]) (rest := []) (q := q_X12_isHouse) hc_X12_visit (Or.inr rfl) (fe_X12_visit (pc := 7) rfl) ms_175 rfl rfl (Nat.le_of_ble_eq_true rfl) (kO_recv (K_X12_isHouse eq2)) (E_X12_isHouse eq2 (by omega)) rfl ?_
    show Ev xs N (d + 1) 247 10 [.ref a0, .int a1, ci_junk] [.int q2.1] q2.2 nx _
    by_cases c3 : q2.1 = 0
    · rw [if_pos c3] at H
      refine ev_bt hc_X12_visit (fe_X12_visit (pc := 10) rfl) rfl c3 ?_
      refine ev_go hc_X12_visit (k := 1) (pc' := 14) (L' := [.ref a0, .int a1, ci_junk]) (S' := [.int ((-1))]) rfl ?_
      obtain rfl := Option.some.inj H
      exact ev_8 hc_X12_visit (fe_X12_visit (pc := 14) rfl) rfl
    · rw [if_neg c3] at H
      refine ev_bf hc_X12_visit (fe_X12_visit (pc := 10) rfl) rfl c3 ?_
      refine ev_go hc_X12_visit (k := 1) (pc' := 16) (L' := [.ref a0, .int a1, ci_junk]) (S' := [.ref a0]) rfl ?_
      obtain ⟨v4, ev4, H⟩ := Option.bind_eq_some_iff.mp H
      refine ev_4 hc_X12_visit (fe_X12_visit (pc := 16) rfl) (gR_gf ev4) ?_
      refine ev_go hc_X12_visit (k := 1) (pc' := 20) (L' := [.ref a0, .int a1, ci_junk]) (S' := [.ref a0, .ref v4]) rfl ?_
      obtain ⟨v5, ev5, H⟩ := Option.bind_eq_some_iff.mp H
      refine ev_4 hc_X12_visit (fe_X12_visit (pc := 20) rfl) (gR_gf ev5) ?_
      refine ev_go hc_X12_visit (k := 1) (pc' := 24) (L' := [.ref a0, .int a1, ci_junk]) (S' := [.int 0, .ref v5, .ref v4]) rfl ?_
      obtain ⟨h6, eh6, H⟩ := Option.bind_eq_some_iff.mp H
      refine ev_call (vs := [.ref v4, .ref v5, .int 0]) (rest := []) (q := q_X12_lay) hc_X12_visit (Or.inl rfl) (fe_X12_visit (pc := 24) rfl) ms_216 rfl rfl (Nat.le_of_ble_eq_true rfl) rfl (E_X12_lay eh6 (by omega)) rfl ?_
      show Ev xs N (d + 1) 247 27 [.ref a0, .int a1, ci_junk] [] h6 nx _
      refine ev_go hc_X12_visit (k := 2) (pc' := 29) (L' := [.ref a0, .int a1, .int 0]) (S' := []) rfl ?_
      exact Ev.weak (ci_le_c (Or.inr rfl) (ci_le_c (Or.inr rfl) (ci_le_c (Or.inr rfl) (ci_le_n)))) (eb_X12_visit_29 hd bigN _ _ _ H)
  · rw [if_neg ck] at H; cases H
def mg_X12_goStore (j : Nat) : Nat := match j with

  | _ => 248
theorem hc_X12_goStore : ci_code (ci_Ms 248) = k_X12_goStore := rfl
theorem fe_X12_goStore {pc : Nat} {w : Option ci_I} (h : (k_X12_goStore)[pc]? = some w) : (k_X12_goStore)[pc]? = some w := h
def b_X12_goStore_37 (rc : Nat → Nat → Int32 → Int32 → Int32 → ci_H → Option (ci_H)) (l0 : Nat) : Nat → Int32 → ci_H → Option (ci_H)
  | 0, _, _ => none
  | n + 1, l4, h => (gI h l0 12 2).bind fun v1 => if v1 ≤ l4 then (some h) else ((gR h l0 12 28).bind fun v3 => (gR h l0 12 25).bind fun v4 => (rI h v4 (24 + l4)).bind fun v5 => (wI h v3 l4 v5).bind fun h6 => b_X12_goStore_37 rc l0 n (l4 + 1) h6)
set_option maxHeartbeats 4000000 in
set_option maxRecDepth 20000 in
theorem eb_X12_goStore_37 {xs : Nat → Int32} {N d : Nat} {nx : ci_N} {rc : Nat → Nat → Int32 → Int32 → Int32 → ci_H → Option (ci_H)} {l0 : Nat} (hd : 4 ≤ d) (hrc : ∀ (j : Nat) (a0 : Nat) (a1 : Int32) (a2 : Int32) (a3 : Int32) (h : ci_H) (r : ci_H), rc j a0 a1 a2 a3 h = some r → Ev xs N d (mg_X12_goStore j) 0 (ci_entry [.ref a0, .int a1, .int a2, .int a3] (ci_n (ci_Ms (mg_X12_goStore j)))) [] h nx (oV r nx)) (hrk : ∀ (j : Nat) (a0 : Nat) (a1 : Int32) (a2 : Int32) (a3 : Int32) (h : ci_H) (r : ci_H), rc j a0 a1 a2 a3 h = some r → kO h a0 = some 12) : ∀ (n : Nat) (l4 : Int32) (h : ci_H) (r : ci_H), b_X12_goStore_37 rc l0 n l4 h = some r → Ev xs N (d + 1) 248 37 [.ref l0, ci_junk, ci_junk, ci_junk, .int l4] [] h nx (oV r nx) := by
  intro n
  induction n with
  | zero => intro l4 h r H; unfold b_X12_goStore_37 at H; cases H
  | succ n ih =>
    intro l4 h r H
    unfold b_X12_goStore_37 at H
    refine ev_go hc_X12_goStore (k := 2) (pc' := 40) (L' := [.ref l0, ci_junk, ci_junk, ci_junk, .int l4]) (S' := [.ref l0, .int l4]) rfl ?_
    obtain ⟨v1, ev1, H⟩ := Option.bind_eq_some_iff.mp H
    refine ev_4 hc_X12_goStore (fe_X12_goStore (pc := 40) rfl) (gI_gf ev1) ?_
    by_cases c2 : v1 ≤ l4
    · rw [if_pos c2] at H
      refine ev_bt hc_X12_goStore (fe_X12_goStore (pc := 43) rfl) rfl c2 ?_
      obtain rfl := Option.some.inj H
      exact ev_8 hc_X12_goStore (fe_X12_goStore (pc := 69) rfl) rfl
    · rw [if_neg c2] at H
      refine ev_bf hc_X12_goStore (fe_X12_goStore (pc := 43) rfl) rfl c2 ?_
      refine ev_go hc_X12_goStore (k := 1) (pc' := 47) (L' := [.ref l0, ci_junk, ci_junk, ci_junk, .int l4]) (S' := [.ref l0]) rfl ?_
      obtain ⟨v3, ev3, H⟩ := Option.bind_eq_some_iff.mp H
      refine ev_4 hc_X12_goStore (fe_X12_goStore (pc := 47) rfl) (gR_gf ev3) ?_
      refine ev_go hc_X12_goStore (k := 2) (pc' := 53) (L' := [.ref l0, ci_junk, ci_junk, ci_junk, .int l4]) (S' := [.ref l0, .int l4, .ref v3]) rfl ?_
      obtain ⟨v4, ev4, H⟩ := Option.bind_eq_some_iff.mp H
      refine ev_4 hc_X12_goStore (fe_X12_goStore (pc := 53) rfl) (gR_gf ev4) ?_
      refine ev_go hc_X12_goStore (k := 3) (pc' := 61) (L' := [.ref l0, ci_junk, ci_junk, ci_junk, .int l4]) (S' := [.int (24 + l4), .ref v4, .int l4, .ref v3]) rfl ?_
      obtain ⟨v5, ev5, H⟩ := Option.bind_eq_some_iff.mp H
      refine ev_4 hc_X12_goStore (fe_X12_goStore (pc := 61) rfl) (rI_al ev5) ?_
      obtain ⟨h6, eh6, H⟩ := Option.bind_eq_some_iff.mp H
      refine ev_5 hc_X12_goStore (fe_X12_goStore (pc := 62) rfl) (wI_as eh6) ?_
      refine ev_go hc_X12_goStore (k := 2) (pc' := 37) (L' := [.ref l0, ci_junk, ci_junk, ci_junk, .int (l4 + 1)]) (S' := []) rfl ?_
      exact Ev.weak (ci_le_c (Or.inr rfl) (ci_le_c (Or.inl rfl) (ci_le_c (Or.inl rfl) (ci_le_c (Or.inl rfl) (ci_le_c (Or.inr rfl) (ci_le_n)))))) (ih _ _ _ H)
def b_X12_goStore_136 (rc : Nat → Nat → Int32 → Int32 → Int32 → ci_H → Option (ci_H)) (r_91 : Int32 → ci_H → Option (ci_H)) (l0 : Nat) (l1 : Int32) (l2 : Int32) (l3 : Int32) (l4 : Int32) (s0 : Nat) (s1 : Int32) (s2 : Int32) (s3 : Int32) (s4 : Int32)  (h : ci_H) : Option (ci_H) := (rc 0 s0 s1 s2 (s3 + s4) h).bind fun h1 => r_91 (l4 + 1) h1
set_option maxHeartbeats 4000000 in
set_option maxRecDepth 20000 in
theorem eb_X12_goStore_136 {xs : Nat → Int32} {N d : Nat} {nx : ci_N} {rc : Nat → Nat → Int32 → Int32 → Int32 → ci_H → Option (ci_H)} {r_91 : Int32 → ci_H → Option (ci_H)} {l0 : Nat} {l1 : Int32} {l2 : Int32} {l3 : Int32} {l4 : Int32} {s0 : Nat} {s1 : Int32} {s2 : Int32} {s3 : Int32} {s4 : Int32} (hd : 4 ≤ d) (hrc : ∀ (j : Nat) (a0 : Nat) (a1 : Int32) (a2 : Int32) (a3 : Int32) (h : ci_H) (r : ci_H), rc j a0 a1 a2 a3 h = some r → Ev xs N d (mg_X12_goStore j) 0 (ci_entry [.ref a0, .int a1, .int a2, .int a3] (ci_n (ci_Ms (mg_X12_goStore j)))) [] h nx (oV r nx)) (hrk : ∀ (j : Nat) (a0 : Nat) (a1 : Int32) (a2 : Int32) (a3 : Int32) (h : ci_H) (r : ci_H), rc j a0 a1 a2 a3 h = some r → kO h a0 = some 12) (h_91 : ∀ (l4 : Int32) (h : ci_H) (r : ci_H), r_91 l4 h = some r → Ev xs N (d + 1) 248 91 [.ref l0, .int l1, .int l2, .int l3, .int l4] [] h nx (oV r nx)) {h : ci_H} {r : ci_H} (H : b_X12_goStore_136 rc r_91 l0 l1 l2 l3 l4 s0 s1 s2 s3 s4 h = some r) : Ev xs N (d + 1) 248 136 [.ref l0, .int l1, .int l2, .int l3, .int l4] [.int s4, .int s3, .int s2, .int s1, .ref s0] h nx (oV r nx) := by
  unfold b_X12_goStore_136 at H
  refine ev_go hc_X12_goStore (k := 1) (pc' := 137) (L' := [.ref l0, .int l1, .int l2, .int l3, .int l4]) (S' := [.int (s3 + s4), .int s2, .int s1, .ref s0]) rfl ?_
  obtain ⟨h1, eh1, H⟩ := Option.bind_eq_some_iff.mp H
  refine ev_call (vs := [.ref s0, .int s1, .int s2, .int (s3 + s4)]) (rest := []) (q := q_X12_goStore) hc_X12_goStore (Or.inr rfl) (fe_X12_goStore (pc := 137) rfl) ms_248 rfl rfl (Nat.le_of_ble_eq_true rfl) (kO_recv (hrk _ _ _ _ _ _ _ eh1)) (hrc 0 _ _ _ _ _ _ eh1) rfl ?_
  show Ev xs N (d + 1) 248 140 [.ref l0, .int l1, .int l2, .int l3, .int l4] [] h1 nx _
  refine ev_go hc_X12_goStore (k := 2) (pc' := 91) (L' := [.ref l0, .int l1, .int l2, .int l3, .int (l4 + 1)]) (S' := []) rfl ?_
  exact Ev.weak (ci_le_c (Or.inr rfl) (ci_le_c (Or.inr rfl) (ci_le_c (Or.inr rfl) (ci_le_c (Or.inr rfl) (ci_le_c (Or.inr rfl) (ci_le_n)))))) (h_91 _ _ _ H)
def b_X12_goStore_91 (rc : Nat → Nat → Int32 → Int32 → Int32 → ci_H → Option (ci_H)) (l0 : Nat) (l1 : Int32) (l2 : Int32) (l3 : Int32) : Nat → Int32 → ci_H → Option (ci_H)
  | 0, _, _ => none
  | n + 1, l4, h => (gI h l0 12 1).bind fun v1 => if v1 ≤ l4 then ((gR h l0 12 25).bind fun v3 => (gR h l0 12 0).bind fun v4 => (rI h v4 (24 + l2)).bind fun v5 => (wI h v3 (24 + l2) v5).bind fun h6 => some h6) else ((gR h l0 12 25).bind fun v7 => (wI h v7 (24 + l2) l4).bind fun h8 => (gR h8 l0 12 0).bind fun v9 => (rI h8 v9 (24 + l2)).bind fun v10 => if l4 = v10 then (b_X12_goStore_136 rc (fun x0 x1 => b_X12_goStore_91 rc l0 l1 l2 l3 n x0 x1) l0 l1 l2 l3 l4 l0 l1 (l2 + 1) l3 0 h8) else (b_X12_goStore_136 rc (fun x0 x1 => b_X12_goStore_91 rc l0 l1 l2 l3 n x0 x1) l0 l1 l2 l3 l4 l0 l1 (l2 + 1) l3 1 h8))
set_option maxHeartbeats 4000000 in
set_option maxRecDepth 20000 in
theorem eb_X12_goStore_91 {xs : Nat → Int32} {N d : Nat} {nx : ci_N} {rc : Nat → Nat → Int32 → Int32 → Int32 → ci_H → Option (ci_H)} {l0 : Nat} {l1 : Int32} {l2 : Int32} {l3 : Int32} (hd : 4 ≤ d) (hrc : ∀ (j : Nat) (a0 : Nat) (a1 : Int32) (a2 : Int32) (a3 : Int32) (h : ci_H) (r : ci_H), rc j a0 a1 a2 a3 h = some r → Ev xs N d (mg_X12_goStore j) 0 (ci_entry [.ref a0, .int a1, .int a2, .int a3] (ci_n (ci_Ms (mg_X12_goStore j)))) [] h nx (oV r nx)) (hrk : ∀ (j : Nat) (a0 : Nat) (a1 : Int32) (a2 : Int32) (a3 : Int32) (h : ci_H) (r : ci_H), rc j a0 a1 a2 a3 h = some r → kO h a0 = some 12) : ∀ (n : Nat) (l4 : Int32) (h : ci_H) (r : ci_H), b_X12_goStore_91 rc l0 l1 l2 l3 n l4 h = some r → Ev xs N (d + 1) 248 91 [.ref l0, .int l1, .int l2, .int l3, .int l4] [] h nx (oV r nx) := by
  intro n
  induction n with
  | zero => intro l4 h r H; unfold b_X12_goStore_91 at H; cases H
  | succ n ih =>
    intro l4 h r H
    unfold b_X12_goStore_91 at H
    refine ev_go hc_X12_goStore (k := 2) (pc' := 94) (L' := [.ref l0, .int l1, .int l2, .int l3, .int l4]) (S' := [.ref l0, .int l4]) rfl ?_
    obtain ⟨v1, ev1, H⟩ := Option.bind_eq_some_iff.mp H
    refine ev_4 hc_X12_goStore (fe_X12_goStore (pc := 94) rfl) (gI_gf ev1) ?_
    by_cases c2 : v1 ≤ l4
    · rw [if_pos c2] at H
      refine ev_bt hc_X12_goStore (fe_X12_goStore (pc := 97) rfl) rfl c2 ?_
      refine ev_go hc_X12_goStore (k := 1) (pc' := 147) (L' := [.ref l0, .int l1, .int l2, .int l3, .int l4]) (S' := [.ref l0]) rfl ?_
      obtain ⟨v3, ev3, H⟩ := Option.bind_eq_some_iff.mp H
      refine ev_4 hc_X12_goStore (fe_X12_goStore (pc := 147) rfl) (gR_gf ev3) ?_
      refine ev_go hc_X12_goStore (k := 4) (pc' := 155) (L' := [.ref l0, .int l1, .int l2, .int l3, .int l4]) (S' := [.ref l0, .int (24 + l2), .ref v3]) rfl ?_
      obtain ⟨v4, ev4, H⟩ := Option.bind_eq_some_iff.mp H
      refine ev_4 hc_X12_goStore (fe_X12_goStore (pc := 155) rfl) (gR_gf ev4) ?_
      refine ev_go hc_X12_goStore (k := 3) (pc' := 162) (L' := [.ref l0, .int l1, .int l2, .int l3, .int l4]) (S' := [.int (24 + l2), .ref v4, .int (24 + l2), .ref v3]) rfl ?_
      obtain ⟨v5, ev5, H⟩ := Option.bind_eq_some_iff.mp H
      refine ev_4 hc_X12_goStore (fe_X12_goStore (pc := 162) rfl) (rI_al ev5) ?_
      obtain ⟨h6, eh6, H⟩ := Option.bind_eq_some_iff.mp H
      refine ev_5 hc_X12_goStore (fe_X12_goStore (pc := 163) rfl) (wI_as eh6) ?_
      obtain rfl := Option.some.inj H
      exact ev_8 hc_X12_goStore (fe_X12_goStore (pc := 164) rfl) rfl
    · rw [if_neg c2] at H
      refine ev_bf hc_X12_goStore (fe_X12_goStore (pc := 97) rfl) rfl c2 ?_
      refine ev_go hc_X12_goStore (k := 1) (pc' := 101) (L' := [.ref l0, .int l1, .int l2, .int l3, .int l4]) (S' := [.ref l0]) rfl ?_
      obtain ⟨v7, ev7, H⟩ := Option.bind_eq_some_iff.mp H
      refine ev_4 hc_X12_goStore (fe_X12_goStore (pc := 101) rfl) (gR_gf ev7) ?_
      refine ev_go hc_X12_goStore (k := 4) (pc' := 110) (L' := [.ref l0, .int l1, .int l2, .int l3, .int l4]) (S' := [.int l4, .int (24 + l2), .ref v7]) rfl ?_
      obtain ⟨h8, eh8, H⟩ := Option.bind_eq_some_iff.mp H
      refine ev_5 hc_X12_goStore (fe_X12_goStore (pc := 110) rfl) (wI_as eh8) ?_
      refine ev_go hc_X12_goStore (k := 8) (pc' := 120) (L' := [.ref l0, .int l1, .int l2, .int l3, .int l4]) (S' := [.ref l0, .int l4, .int l3, .int (l2 + 1), .int l1, .ref l0]) rfl ?_
      obtain ⟨v9, ev9, H⟩ := Option.bind_eq_some_iff.mp H
      refine ev_4 hc_X12_goStore (fe_X12_goStore (pc := 120) rfl) (gR_gf ev9) ?_
      refine ev_go hc_X12_goStore (k := 3) (pc' := 127) (L' := [.ref l0, .int l1, .int l2, .int l3, .int l4]) (S' := [.int (24 + l2), .ref v9, .int l4, .int l3, .int (l2 + 1), .int l1, .ref l0]) rfl ?_
      obtain ⟨v10, ev10, H⟩ := Option.bind_eq_some_iff.mp H
      refine ev_4 hc_X12_goStore (fe_X12_goStore (pc := 127) rfl) (rI_al ev10) ?_
      by_cases c11 : l4 = v10
      · rw [if_pos c11] at H
        refine ev_bt hc_X12_goStore (fe_X12_goStore (pc := 128) rfl) rfl c11 ?_
        refine ev_go hc_X12_goStore (k := 2) (pc' := 136) (L' := [.ref l0, .int l1, .int l2, .int l3, .int l4]) (S' := [.int 0, .int l3, .int (l2 + 1), .int l1, .ref l0]) rfl ?_
        exact Ev.weak (ci_le_c (Or.inr rfl) (ci_le_c (Or.inr rfl) (ci_le_c (Or.inr rfl) (ci_le_c (Or.inr rfl) (ci_le_c (Or.inr rfl) (ci_le_n)))))) (eb_X12_goStore_136 hd hrc hrk ih H)
      · rw [if_neg c11] at H
        refine ev_bf hc_X12_goStore (fe_X12_goStore (pc := 128) rfl) rfl c11 ?_
        refine ev_go hc_X12_goStore (k := 1) (pc' := 136) (L' := [.ref l0, .int l1, .int l2, .int l3, .int l4]) (S' := [.int 1, .int l3, .int (l2 + 1), .int l1, .ref l0]) rfl ?_
        exact Ev.weak (ci_le_c (Or.inr rfl) (ci_le_c (Or.inr rfl) (ci_le_c (Or.inr rfl) (ci_le_c (Or.inr rfl) (ci_le_c (Or.inr rfl) (ci_le_n)))))) (eb_X12_goStore_136 hd hrc hrk ih H)
def G_X12_goStore (rc : Nat → Nat → Int32 → Int32 → Int32 → ci_H → Option (ci_H)) (a0 : Nat) (a1 : Int32) (a2 : Int32) (a3 : Int32) (h : ci_H) : Option (ci_H) := if kO h a0 = some 12 then ((gI h a0 12 29).bind fun v1 => if a3 < v1 then ((gI h a0 12 2).bind fun v3 => if a2 = v3 then ((gR h a0 12 25).bind fun v5 => (F_X12_brokenHouses a0 v5 h).bind fun q6 => if q6.1 = 0 then ((pF q6.2 a0 12 29 (.int a3)).bind fun h8 => b_X12_goStore_37 rc a0 bigN 0 h8) else (some q6.2)) else ((F_X12_has a1 a2 h).bind fun q9 => if q9.1 = 0 then ((rc 0 a0 a1 (a2 + 1) a3 q9.2).bind fun h11 => some h11) else (b_X12_goStore_91 rc a0 a1 a2 a3 bigN 0 q9.2))) else (some h)) else none
theorem KG_X12_goStore {rc : Nat → Nat → Int32 → Int32 → Int32 → ci_H → Option (ci_H)} {a0 : Nat} {a1 : Int32} {a2 : Int32} {a3 : Int32} {h : ci_H} {r : ci_H} (H : G_X12_goStore rc a0 a1 a2 a3 h = some r) : kO h a0 = some 12 := by
  unfold G_X12_goStore at H
  by_cases c : kO h a0 = some 12
  · exact c
  · rw [if_neg c] at H; cases H
set_option maxHeartbeats 4000000 in
set_option maxRecDepth 20000 in
theorem EG_X12_goStore {xs : Nat → Int32} {N d : Nat} {nx : ci_N} {rc : Nat → Nat → Int32 → Int32 → Int32 → ci_H → Option (ci_H)} {a0 : Nat} {a1 : Int32} {a2 : Int32} {a3 : Int32} (hd : 4 ≤ d) (hrc : ∀ (j : Nat) (a0 : Nat) (a1 : Int32) (a2 : Int32) (a3 : Int32) (h : ci_H) (r : ci_H), rc j a0 a1 a2 a3 h = some r → Ev xs N d (mg_X12_goStore j) 0 (ci_entry [.ref a0, .int a1, .int a2, .int a3] (ci_n (ci_Ms (mg_X12_goStore j)))) [] h nx (oV r nx)) (hrk : ∀ (j : Nat) (a0 : Nat) (a1 : Int32) (a2 : Int32) (a3 : Int32) (h : ci_H) (r : ci_H), rc j a0 a1 a2 a3 h = some r → kO h a0 = some 12) {h : ci_H} {r : ci_H} (H : G_X12_goStore rc a0 a1 a2 a3 h = some r) : Ev xs N (d + 1) 248 0 (ci_entry [.ref a0, .int a1, .int a2, .int a3] 5) [] h nx (oV r nx) := by
  unfold G_X12_goStore at H
  by_cases ck : kO h a0 = some 12
  · rw [if_pos ck] at H
    show Ev xs N (d + 1) 248 0 [.ref a0, .int a1, .int a2, .int a3, ci_junk] [] h nx _
    refine ev_go hc_X12_goStore (k := 2) (pc' := 2) (L' := [.ref a0, .int a1, .int a2, .int a3, ci_junk]) (S' := [.ref a0, .int a3]) rfl ?_
    obtain ⟨v1, ev1, H⟩ := Option.bind_eq_some_iff.mp H
    refine ev_4 hc_X12_goStore (fe_X12_goStore (pc := 2) rfl) (gI_gf ev1) ?_
    by_cases c2 : a3 < v1
    · rw [if_pos c2] at H
      refine ev_bt hc_X12_goStore (fe_X12_goStore (pc := 5) rfl) rfl c2 ?_
      refine ev_go hc_X12_goStore (k := 2) (pc' := 11) (L' := [.ref a0, .int a1, .int a2, .int a3, ci_junk]) (S' := [.ref a0, .int a2]) rfl ?_
      obtain ⟨v3, ev3, H⟩ := Option.bind_eq_some_iff.mp H
      refine ev_4 hc_X12_goStore (fe_X12_goStore (pc := 11) rfl) (gI_gf ev3) ?_
      by_cases c4 : a2 = v3
      · rw [if_pos c4] at H
        refine ev_bt hc_X12_goStore (fe_X12_goStore (pc := 14) rfl) rfl c4 ?_
        refine ev_go hc_X12_goStore (k := 2) (pc' := 19) (L' := [.ref a0, .int a1, .int a2, .int a3, ci_junk]) (S' := [.ref a0, .ref a0]) rfl ?_
        obtain ⟨v5, ev5, H⟩ := Option.bind_eq_some_iff.mp H
        refine ev_4 hc_X12_goStore (fe_X12_goStore (pc := 19) rfl) (gR_gf ev5) ?_
        obtain ⟨q6, eq6, H⟩ := Option.bind_eq_some_iff.mp H
        refine ev_call (vs := [.ref a0, .ref v5]) (rest := []) (q := q_X12_brokenHouses) hc_X12_goStore (Or.inr rfl) (fe_X12_goStore (pc := 22) rfl) ms_207 rfl rfl (Nat.le_of_ble_eq_true rfl) (kO_recv (K_X12_brokenHouses eq6)) (E_X12_brokenHouses eq6 (by omega)) rfl ?_
        show Ev xs N (d + 1) 248 25 [.ref a0, .int a1, .int a2, .int a3, ci_junk] [.int q6.1] q6.2 nx _
        by_cases c7 : q6.1 = 0
        · rw [if_pos c7] at H
          refine ev_bt hc_X12_goStore (fe_X12_goStore (pc := 25) rfl) rfl c7 ?_
          refine ev_go hc_X12_goStore (k := 2) (pc' := 31) (L' := [.ref a0, .int a1, .int a2, .int a3, ci_junk]) (S' := [.int a3, .ref a0]) rfl ?_
          obtain ⟨h8, eh8, H⟩ := Option.bind_eq_some_iff.mp H
          refine ev_5 hc_X12_goStore (fe_X12_goStore (pc := 31) rfl) (pF_pf eh8) ?_
          refine ev_go hc_X12_goStore (k := 2) (pc' := 37) (L' := [.ref a0, .int a1, .int a2, .int a3, .int 0]) (S' := []) rfl ?_
          exact Ev.weak (ci_le_c (Or.inr rfl) (ci_le_c (Or.inl rfl) (ci_le_c (Or.inl rfl) (ci_le_c (Or.inl rfl) (ci_le_c (Or.inr rfl) (ci_le_n)))))) (eb_X12_goStore_37 hd hrc hrk bigN _ _ _ H)
        · rw [if_neg c7] at H
          refine ev_bf hc_X12_goStore (fe_X12_goStore (pc := 25) rfl) rfl c7 ?_
          obtain rfl := Option.some.inj H
          exact ev_8 hc_X12_goStore (fe_X12_goStore (pc := 28) rfl) rfl
      · rw [if_neg c4] at H
        refine ev_bf hc_X12_goStore (fe_X12_goStore (pc := 14) rfl) rfl c4 ?_
        refine ev_go hc_X12_goStore (k := 2) (pc' := 72) (L' := [.ref a0, .int a1, .int a2, .int a3, ci_junk]) (S' := [.int a2, .int a1]) rfl ?_
        obtain ⟨q9, eq9, H⟩ := Option.bind_eq_some_iff.mp H
        refine ev_call (vs := [.int a1, .int a2]) (rest := []) (q := q_X12_has) hc_X12_goStore (Or.inl rfl) (fe_X12_goStore (pc := 72) rfl) ms_171 rfl rfl (Nat.le_of_ble_eq_true rfl) rfl (E_X12_has eq9 (by omega)) rfl ?_
        show Ev xs N (d + 1) 248 75 [.ref a0, .int a1, .int a2, .int a3, ci_junk] [.int q9.1] q9.2 nx _
        by_cases c10 : q9.1 = 0
        · rw [if_pos c10] at H
          refine ev_bt hc_X12_goStore (fe_X12_goStore (pc := 75) rfl) rfl c10 ?_
          refine ev_go hc_X12_goStore (k := 6) (pc' := 84) (L' := [.ref a0, .int a1, .int a2, .int a3, ci_junk]) (S' := [.int a3, .int (a2 + 1), .int a1, .ref a0]) rfl ?_
          obtain ⟨h11, eh11, H⟩ := Option.bind_eq_some_iff.mp H
          refine ev_call (vs := [.ref a0, .int a1, .int (a2 + 1), .int a3]) (rest := []) (q := q_X12_goStore) hc_X12_goStore (Or.inr rfl) (fe_X12_goStore (pc := 84) rfl) ms_248 rfl rfl (Nat.le_of_ble_eq_true rfl) (kO_recv (hrk _ _ _ _ _ _ _ eh11)) (hrc 0 _ _ _ _ _ _ eh11) rfl ?_
          show Ev xs N (d + 1) 248 87 [.ref a0, .int a1, .int a2, .int a3, ci_junk] [] h11 nx _
          obtain rfl := Option.some.inj H
          exact ev_8 hc_X12_goStore (fe_X12_goStore (pc := 87) rfl) rfl
        · rw [if_neg c10] at H
          refine ev_bf hc_X12_goStore (fe_X12_goStore (pc := 75) rfl) rfl c10 ?_
          refine ev_go hc_X12_goStore (k := 2) (pc' := 91) (L' := [.ref a0, .int a1, .int a2, .int a3, .int 0]) (S' := []) rfl ?_
          exact Ev.weak (ci_le_c (Or.inr rfl) (ci_le_c (Or.inr rfl) (ci_le_c (Or.inr rfl) (ci_le_c (Or.inr rfl) (ci_le_c (Or.inr rfl) (ci_le_n)))))) (eb_X12_goStore_91 hd hrc hrk bigN _ _ _ H)
    · rw [if_neg c2] at H
      refine ev_bf hc_X12_goStore (fe_X12_goStore (pc := 5) rfl) rfl c2 ?_
      obtain rfl := Option.some.inj H
      exact ev_8 hc_X12_goStore (fe_X12_goStore (pc := 8) rfl) rfl
  · rw [if_neg ck] at H; cases H
def FG_X12_goStore : Nat → Nat → Nat → Int32 → Int32 → Int32 → ci_H → Option (ci_H)
  | 0, _, _, _, _, _, _ => none
  | n + 1, j, a0, a1, a2, a3, h => match j with
    | _ => G_X12_goStore (fun j a0 a1 a2 a3 h => FG_X12_goStore n j a0 a1 a2 a3 h) a0 a1 a2 a3 h
theorem KGG_X12_goStore : ∀ (n j : Nat) (a0 : Nat) (a1 : Int32) (a2 : Int32) (a3 : Int32) (h : ci_H) (r : ci_H), FG_X12_goStore n j a0 a1 a2 a3 h = some r → kO h a0 = some 12 := by
  intro n j a0 a1 a2 a3 h r H
  cases n with
  | zero => cases H
  | succ n =>
    match j, H with
    | j, H => exact KG_X12_goStore H
theorem EGG_X12_goStore {xs : Nat → Int32} {N : Nat} {nx : ci_N} : ∀ (n d j : Nat) (a0 : Nat) (a1 : Int32) (a2 : Int32) (a3 : Int32) (h : ci_H) (r : ci_H), FG_X12_goStore n j a0 a1 a2 a3 h = some r → n + 5 ≤ d → Ev xs N d (mg_X12_goStore j) 0 (ci_entry [.ref a0, .int a1, .int a2, .int a3] (ci_n (ci_Ms (mg_X12_goStore j)))) [] h nx (oV r nx) := by
  intro n
  induction n with
  | zero => intro d j a0 a1 a2 a3 h r H; cases H
  | succ n ih =>
    intro d j a0 a1 a2 a3 h r H hd
    obtain ⟨d, rfl⟩ : ∃ d2, d = d2 + 1 := ⟨d - 1, by omega⟩
    match j, H with
    | j, H => exact EG_X12_goStore (by omega) (fun j a0 a1 a2 a3 h r H => ih d j a0 a1 a2 a3 h r H (by omega)) (KGG_X12_goStore n) H
def F_X12_goStore (a0 : Nat) (a1 : Int32) (a2 : Int32) (a3 : Int32) (h : ci_H) : Option (ci_H) := FG_X12_goStore recN 0 a0 a1 a2 a3 h
theorem K_X12_goStore {a0 : Nat} {a1 : Int32} {a2 : Int32} {a3 : Int32} {h : ci_H} {r : ci_H} (H : F_X12_goStore a0 a1 a2 a3 h = some r) : kO h a0 = some 12 := KGG_X12_goStore recN 0 _ _ _ _ h r H
theorem E_X12_goStore {xs : Nat → Int32} {N d : Nat} {nx : ci_N} {a0 : Nat} {a1 : Int32} {a2 : Int32} {a3 : Int32} {h : ci_H} {r : ci_H} (H : F_X12_goStore a0 a1 a2 a3 h = some r) (hd : 105 ≤ d) : Ev xs N d 248 0 (ci_entry [.ref a0, .int a1, .int a2, .int a3] 5) [] h nx (oV r nx) := EGG_X12_goStore recN d 0 _ _ _ _ h r H (by unfold recN; omega)
theorem hc_X12_store : ci_code (ci_Ms 249) = k_X12_store := rfl
theorem fe_X12_store {pc : Nat} {w : Option ci_I} (h : (k_X12_store)[pc]? = some w) : (k_X12_store)[pc]? = some w := h
def b_X12_store_114 (r_87 : Int32 → ci_H → Option (Int32 × ci_H)) (l0 : Nat) (l1 : Int32) (l2 : Int32)  (h : ci_H) : Option (Int32 × ci_H) := r_87 (l2 + 1) h
set_option maxHeartbeats 4000000 in
set_option maxRecDepth 20000 in
theorem eb_X12_store_114 {xs : Nat → Int32} {N d : Nat} {nx : ci_N} {r_87 : Int32 → ci_H → Option (Int32 × ci_H)} {l0 : Nat} {l1 : Int32} {l2 : Int32} (hd : 105 ≤ d) (h_87 : ∀ (l2 : Int32) (h : ci_H) (r : Int32 × ci_H), r_87 l2 h = some r → Ev xs N (d + 1) 249 87 [.ref l0, .int l1, .int l2] [] h nx (oI r nx)) {h : ci_H} {r : Int32 × ci_H} (H : b_X12_store_114 r_87 l0 l1 l2 h = some r) : Ev xs N (d + 1) 249 114 [.ref l0, .int l1, .int l2] [] h nx (oI r nx) := by
  unfold b_X12_store_114 at H
  refine ev_go hc_X12_store (k := 2) (pc' := 87) (L' := [.ref l0, .int l1, .int (l2 + 1)]) (S' := []) rfl ?_
  exact Ev.weak (ci_le_c (Or.inr rfl) (ci_le_c (Or.inr rfl) (ci_le_c (Or.inr rfl) (ci_le_n)))) (h_87 _ _ _ H)
def b_X12_store_87 (l0 : Nat) (l1 : Int32) : Nat → Int32 → ci_H → Option (Int32 × ci_H)
  | 0, _, _ => none
  | n + 1, l2, h => (gI h l0 12 2).bind fun v1 => if v1 ≤ l2 then ((gI h l0 12 29).bind fun v3 => some (v3, h)) else ((F_X12_has l1 l2 h).bind fun q4 => if q4.1 = 0 then (b_X12_store_114 (fun x0 x1 => b_X12_store_87 l0 l1 n x0 x1) l0 l1 l2 q4.2) else ((gR q4.2 l0 12 28).bind fun v6 => (rI q4.2 v6 l2).bind fun v7 => (F_X12_tell l0 ((v7 : Int32).toInt64) q4.2).bind fun h8 => b_X12_store_114 (fun x0 x1 => b_X12_store_87 l0 l1 n x0 x1) l0 l1 l2 h8))
set_option maxHeartbeats 4000000 in
set_option maxRecDepth 20000 in
theorem eb_X12_store_87 {xs : Nat → Int32} {N d : Nat} {nx : ci_N} {l0 : Nat} {l1 : Int32} (hd : 105 ≤ d) : ∀ (n : Nat) (l2 : Int32) (h : ci_H) (r : Int32 × ci_H), b_X12_store_87 l0 l1 n l2 h = some r → Ev xs N (d + 1) 249 87 [.ref l0, .int l1, .int l2] [] h nx (oI r nx) := by
  intro n
  induction n with
  | zero => intro l2 h r H; unfold b_X12_store_87 at H; cases H
  | succ n ih =>
    intro l2 h r H
    unfold b_X12_store_87 at H
    refine ev_go hc_X12_store (k := 2) (pc' := 89) (L' := [.ref l0, .int l1, .int l2]) (S' := [.ref l0, .int l2]) rfl ?_
    obtain ⟨v1, ev1, H⟩ := Option.bind_eq_some_iff.mp H
    refine ev_4 hc_X12_store (fe_X12_store (pc := 89) rfl) (gI_gf ev1) ?_
    by_cases c2 : v1 ≤ l2
    · rw [if_pos c2] at H
      refine ev_bt hc_X12_store (fe_X12_store (pc := 92) rfl) rfl c2 ?_
      refine ev_go hc_X12_store (k := 1) (pc' := 121) (L' := [.ref l0, .int l1, .int l2]) (S' := [.ref l0]) rfl ?_
      obtain ⟨v3, ev3, H⟩ := Option.bind_eq_some_iff.mp H
      refine ev_4 hc_X12_store (fe_X12_store (pc := 121) rfl) (gI_gf ev3) ?_
      obtain rfl := Option.some.inj H
      exact ev_8 hc_X12_store (fe_X12_store (pc := 124) rfl) rfl
    · rw [if_neg c2] at H
      refine ev_bf hc_X12_store (fe_X12_store (pc := 92) rfl) rfl c2 ?_
      refine ev_go hc_X12_store (k := 2) (pc' := 97) (L' := [.ref l0, .int l1, .int l2]) (S' := [.int l2, .int l1]) rfl ?_
      obtain ⟨q4, eq4, H⟩ := Option.bind_eq_some_iff.mp H
      refine ev_call (vs := [.int l1, .int l2]) (rest := []) (q := q_X12_has) hc_X12_store (Or.inl rfl) (fe_X12_store (pc := 97) rfl) ms_171 rfl rfl (Nat.le_of_ble_eq_true rfl) rfl (E_X12_has eq4 (by omega)) rfl ?_
      show Ev xs N (d + 1) 249 100 [.ref l0, .int l1, .int l2] [.int q4.1] q4.2 nx _
      by_cases c5 : q4.1 = 0
      · rw [if_pos c5] at H
        refine ev_bt hc_X12_store (fe_X12_store (pc := 100) rfl) rfl c5 ?_
        exact Ev.weak (ci_le_c (Or.inr rfl) (ci_le_c (Or.inr rfl) (ci_le_c (Or.inr rfl) (ci_le_n)))) (eb_X12_store_114 hd ih H)
      · rw [if_neg c5] at H
        refine ev_bf hc_X12_store (fe_X12_store (pc := 100) rfl) rfl c5 ?_
        refine ev_go hc_X12_store (k := 2) (pc' := 105) (L' := [.ref l0, .int l1, .int l2]) (S' := [.ref l0, .ref l0]) rfl ?_
        obtain ⟨v6, ev6, H⟩ := Option.bind_eq_some_iff.mp H
        refine ev_4 hc_X12_store (fe_X12_store (pc := 105) rfl) (gR_gf ev6) ?_
        refine ev_go hc_X12_store (k := 1) (pc' := 109) (L' := [.ref l0, .int l1, .int l2]) (S' := [.int l2, .ref v6, .ref l0]) rfl ?_
        obtain ⟨v7, ev7, H⟩ := Option.bind_eq_some_iff.mp H
        refine ev_4 hc_X12_store (fe_X12_store (pc := 109) rfl) (rI_al ev7) ?_
        refine ev_go hc_X12_store (k := 1) (pc' := 111) (L' := [.ref l0, .int l1, .int l2]) (S' := [.long ((v7 : Int32).toInt64), .ref l0]) rfl ?_
        obtain ⟨h8, eh8, H⟩ := Option.bind_eq_some_iff.mp H
        refine ev_call (vs := [.ref l0, .long ((v7 : Int32).toInt64)]) (rest := []) (q := q_X12_tell) hc_X12_store (Or.inr rfl) (fe_X12_store (pc := 111) rfl) ms_173 rfl rfl (Nat.le_of_ble_eq_true rfl) (kO_recv (K_X12_tell eh8)) (E_X12_tell eh8 (by omega)) rfl ?_
        show Ev xs N (d + 1) 249 114 [.ref l0, .int l1, .int l2] [] h8 nx _
        exact Ev.weak (ci_le_c (Or.inr rfl) (ci_le_c (Or.inr rfl) (ci_le_c (Or.inr rfl) (ci_le_n)))) (eb_X12_store_114 hd ih H)
def F_X12_store (a0 : Nat) (a1 : Int32) (h : ci_H) : Option (Int32 × ci_H) := if kO h a0 = some 12 then ((pF h a0 12 11 (.int 0)).bind fun h1 => (F_X12_areThings a0 a1 h1).bind fun q2 => if q2.1 = 0 then (some ((-1), q2.2)) else ((F_J6_bitCount_0f7a4 a1 q2.2).bind fun q4 => if 6 < q4.1 then (some ((-3), q4.2)) else ((gR q4.2 a0 12 0).bind fun v6 => (F_X12_ownedBy a0 v6 ((-1)) q4.2).bind fun q7 => if (a1 &&& q7.1) = 0 then ((gR q7.2 a0 12 0).bind fun v9 => (gR q7.2 a0 12 25).bind fun v10 => (F_X12_lay v9 v10 0 q7.2).bind fun h11 => (pF h11 a0 12 29 (.int 1000000)).bind fun h12 => (F_X12_goStore a0 a1 0 0 h12).bind fun h13 => (gI h13 a0 12 29).bind fun v14 => if v14 = 1000000 then (some ((-2), h13)) else ((pF h13 a0 12 10 (.int 0)).bind fun h16 => b_X12_store_87 a0 a1 bigN 0 h16)) else (some ((-3), q7.2))))) else none
theorem K_X12_store {a0 : Nat} {a1 : Int32} {h : ci_H} {r : Int32 × ci_H} (H : F_X12_store a0 a1 h = some r) : kO h a0 = some 12 := by
  unfold F_X12_store at H
  by_cases c : kO h a0 = some 12
  · exact c
  · rw [if_neg c] at H; cases H
set_option maxHeartbeats 4000000 in
set_option maxRecDepth 20000 in
theorem E_X12_store {xs : Nat → Int32} {N d : Nat} {nx : ci_N} {a0 : Nat} {a1 : Int32} {h : ci_H} {r : Int32 × ci_H} (H : F_X12_store a0 a1 h = some r) (hd : 106 ≤ d) : Ev xs N d 249 0 (ci_entry [.ref a0, .int a1] 3) [] h nx (oI r nx) := by
  obtain ⟨d, rfl⟩ : ∃ d2, d = d2 + 1 := ⟨d - 1, by omega⟩
  have hd : 105 ≤ d := by omega
  unfold F_X12_store at H
  by_cases ck : kO h a0 = some 12
  · rw [if_pos ck] at H
    show Ev xs N (d + 1) 249 0 [.ref a0, .int a1, ci_junk] [] h nx _
    refine ev_go hc_X12_store (k := 2) (pc' := 2) (L' := [.ref a0, .int a1, ci_junk]) (S' := [.int 0, .ref a0]) rfl ?_
    obtain ⟨h1, eh1, H⟩ := Option.bind_eq_some_iff.mp H
    refine ev_5 hc_X12_store (fe_X12_store (pc := 2) rfl) (pF_pf eh1) ?_
    refine ev_go hc_X12_store (k := 2) (pc' := 7) (L' := [.ref a0, .int a1, ci_junk]) (S' := [.int a1, .ref a0]) rfl ?_
    obtain ⟨q2, eq2, H⟩ := Option.bind_eq_some_iff.mp H
    refine ev_call (vs := [.ref a0, .int a1]) (rest := []) (q := q_X12_areThings) hc_X12_store (Or.inr rfl) (fe_X12_store (pc := 7) rfl) ms_177 rfl rfl (Nat.le_of_ble_eq_true rfl) (kO_recv (K_X12_areThings eq2)) (E_X12_areThings eq2 (by omega)) rfl ?_
    show Ev xs N (d + 1) 249 10 [.ref a0, .int a1, ci_junk] [.int q2.1] q2.2 nx _
    by_cases c3 : q2.1 = 0
    · rw [if_pos c3] at H
      refine ev_bt hc_X12_store (fe_X12_store (pc := 10) rfl) rfl c3 ?_
      refine ev_go hc_X12_store (k := 1) (pc' := 14) (L' := [.ref a0, .int a1, ci_junk]) (S' := [.int ((-1))]) rfl ?_
      obtain rfl := Option.some.inj H
      exact ev_8 hc_X12_store (fe_X12_store (pc := 14) rfl) rfl
    · rw [if_neg c3] at H
      refine ev_bf hc_X12_store (fe_X12_store (pc := 10) rfl) rfl c3 ?_
      refine ev_go hc_X12_store (k := 1) (pc' := 16) (L' := [.ref a0, .int a1, ci_junk]) (S' := [.int a1]) rfl ?_
      obtain ⟨q4, eq4, H⟩ := Option.bind_eq_some_iff.mp H
      refine ev_call (vs := [.int a1]) (rest := []) (q := q_J6_bitCount_0f7a4) hc_X12_store (Or.inl rfl) (fe_X12_store (pc := 16) rfl) ms_285 rfl rfl (Nat.le_of_ble_eq_true rfl) rfl (E_J6_bitCount_0f7a4 eq4 (by omega)) rfl ?_
      show Ev xs N (d + 1) 249 19 [.ref a0, .int a1, ci_junk] [.int q4.1] q4.2 nx _
      refine ev_go hc_X12_store (k := 1) (pc' := 21) (L' := [.ref a0, .int a1, ci_junk]) (S' := [.int 6, .int q4.1]) rfl ?_
      by_cases c5 : 6 < q4.1
      · rw [if_pos c5] at H
        refine ev_bt hc_X12_store (fe_X12_store (pc := 21) rfl) rfl c5 ?_
        refine ev_go hc_X12_store (k := 1) (pc' := 40) (L' := [.ref a0, .int a1, ci_junk]) (S' := [.int ((-3))]) rfl ?_
        obtain rfl := Option.some.inj H
        exact ev_8 hc_X12_store (fe_X12_store (pc := 40) rfl) rfl
      · rw [if_neg c5] at H
        refine ev_bf hc_X12_store (fe_X12_store (pc := 21) rfl) rfl c5 ?_
        refine ev_go hc_X12_store (k := 3) (pc' := 27) (L' := [.ref a0, .int a1, ci_junk]) (S' := [.ref a0, .ref a0, .int a1]) rfl ?_
        obtain ⟨v6, ev6, H⟩ := Option.bind_eq_some_iff.mp H
        refine ev_4 hc_X12_store (fe_X12_store (pc := 27) rfl) (gR_gf ev6) ?_
        refine ev_go hc_X12_store (k := 1) (pc' := 31) (L' := [.ref a0, .int a1, ci_junk]) (S' := [.int ((-1)), .ref v6, .ref a0, .int a1]) rfl ?_
        obtain ⟨q7, eq7, H⟩ := Option.bind_eq_some_iff.mp H
        refine ev_call (vs := [.ref a0, .ref v6, .int ((-1))]) (rest := [.int a1]) (q := q_X12_ownedBy) hc_X12_store (Or.inr rfl) (fe_X12_store (pc := 31) rfl) ms_203 rfl rfl (Nat.le_of_ble_eq_true rfl) (kO_recv (K_X12_ownedBy eq7)) (E_X12_ownedBy eq7 (by omega)) rfl ?_
        show Ev xs N (d + 1) 249 34 [.ref a0, .int a1, ci_junk] [.int q7.1, .int a1] q7.2 nx _
        refine ev_go hc_X12_store (k := 1) (pc' := 35) (L' := [.ref a0, .int a1, ci_junk]) (S' := [.int (a1 &&& q7.1)]) rfl ?_
        by_cases c8 : (a1 &&& q7.1) = 0
        · rw [if_pos c8] at H
          refine ev_bt hc_X12_store (fe_X12_store (pc := 35) rfl) rfl c8 ?_
          refine ev_go hc_X12_store (k := 1) (pc' := 42) (L' := [.ref a0, .int a1, ci_junk]) (S' := [.ref a0]) rfl ?_
          obtain ⟨v9, ev9, H⟩ := Option.bind_eq_some_iff.mp H
          refine ev_4 hc_X12_store (fe_X12_store (pc := 42) rfl) (gR_gf ev9) ?_
          refine ev_go hc_X12_store (k := 1) (pc' := 46) (L' := [.ref a0, .int a1, ci_junk]) (S' := [.ref a0, .ref v9]) rfl ?_
          obtain ⟨v10, ev10, H⟩ := Option.bind_eq_some_iff.mp H
          refine ev_4 hc_X12_store (fe_X12_store (pc := 46) rfl) (gR_gf ev10) ?_
          refine ev_go hc_X12_store (k := 1) (pc' := 50) (L' := [.ref a0, .int a1, ci_junk]) (S' := [.int 0, .ref v10, .ref v9]) rfl ?_
          obtain ⟨h11, eh11, H⟩ := Option.bind_eq_some_iff.mp H
          refine ev_call (vs := [.ref v9, .ref v10, .int 0]) (rest := []) (q := q_X12_lay) hc_X12_store (Or.inl rfl) (fe_X12_store (pc := 50) rfl) ms_216 rfl rfl (Nat.le_of_ble_eq_true rfl) rfl (E_X12_lay eh11 (by omega)) rfl ?_
          show Ev xs N (d + 1) 249 53 [.ref a0, .int a1, ci_junk] [] h11 nx _
          refine ev_go hc_X12_store (k := 2) (pc' := 57) (L' := [.ref a0, .int a1, ci_junk]) (S' := [.int 1000000, .ref a0]) rfl ?_
          obtain ⟨h12, eh12, H⟩ := Option.bind_eq_some_iff.mp H
          refine ev_5 hc_X12_store (fe_X12_store (pc := 57) rfl) (pF_pf eh12) ?_
          refine ev_go hc_X12_store (k := 4) (pc' := 64) (L' := [.ref a0, .int a1, ci_junk]) (S' := [.int 0, .int 0, .int a1, .ref a0]) rfl ?_
          obtain ⟨h13, eh13, H⟩ := Option.bind_eq_some_iff.mp H
          refine ev_call (vs := [.ref a0, .int a1, .int 0, .int 0]) (rest := []) (q := q_X12_goStore) hc_X12_store (Or.inr rfl) (fe_X12_store (pc := 64) rfl) ms_248 rfl rfl (Nat.le_of_ble_eq_true rfl) (kO_recv (K_X12_goStore eh13)) (E_X12_goStore eh13 (by omega)) rfl ?_
          show Ev xs N (d + 1) 249 67 [.ref a0, .int a1, ci_junk] [] h13 nx _
          refine ev_go hc_X12_store (k := 1) (pc' := 68) (L' := [.ref a0, .int a1, ci_junk]) (S' := [.ref a0]) rfl ?_
          obtain ⟨v14, ev14, H⟩ := Option.bind_eq_some_iff.mp H
          refine ev_4 hc_X12_store (fe_X12_store (pc := 68) rfl) (gI_gf ev14) ?_
          refine ev_go hc_X12_store (k := 1) (pc' := 74) (L' := [.ref a0, .int a1, ci_junk]) (S' := [.int 1000000, .int v14]) rfl ?_
          by_cases c15 : v14 = 1000000
          · rw [if_pos c15] at H
            refine ev_bt hc_X12_store (fe_X12_store (pc := 74) rfl) rfl c15 ?_
            refine ev_go hc_X12_store (k := 1) (pc' := 79) (L' := [.ref a0, .int a1, ci_junk]) (S' := [.int ((-2))]) rfl ?_
            obtain rfl := Option.some.inj H
            exact ev_8 hc_X12_store (fe_X12_store (pc := 79) rfl) rfl
          · rw [if_neg c15] at H
            refine ev_bf hc_X12_store (fe_X12_store (pc := 74) rfl) rfl c15 ?_
            refine ev_go hc_X12_store (k := 2) (pc' := 82) (L' := [.ref a0, .int a1, ci_junk]) (S' := [.int 0, .ref a0]) rfl ?_
            obtain ⟨h16, eh16, H⟩ := Option.bind_eq_some_iff.mp H
            refine ev_5 hc_X12_store (fe_X12_store (pc := 82) rfl) (pF_pf eh16) ?_
            refine ev_go hc_X12_store (k := 2) (pc' := 87) (L' := [.ref a0, .int a1, .int 0]) (S' := []) rfl ?_
            exact Ev.weak (ci_le_c (Or.inr rfl) (ci_le_c (Or.inr rfl) (ci_le_c (Or.inr rfl) (ci_le_n)))) (eb_X12_store_87 hd bigN _ _ _ H)
        · rw [if_neg c8] at H
          refine ev_bf hc_X12_store (fe_X12_store (pc := 35) rfl) rfl c8 ?_
          refine ev_go hc_X12_store (k := 1) (pc' := 40) (L' := [.ref a0, .int a1, ci_junk]) (S' := [.int ((-3))]) rfl ?_
          obtain rfl := Option.some.inj H
          exact ev_8 hc_X12_store (fe_X12_store (pc := 40) rfl) rfl
  · rw [if_neg ck] at H; cases H
theorem hc_X12_strike : ci_code (ci_Ms 250) = k_X12_strike := rfl
theorem fe_X12_strike {pc : Nat} {w : Option ci_I} (h : (k_X12_strike)[pc]? = some w) : (k_X12_strike)[pc]? = some w := h
def F_X12_strike (a0 : Nat) (a1 : Int32) (h : ci_H) : Option (Int32 × ci_H) := if kO h a0 = some 12 then ((pF h a0 12 11 (.int 0)).bind fun h1 => (F_X12_isHouse a0 a1 h1).bind fun q2 => if q2.1 = 0 then (some ((-1), q2.2)) else ((pF q2.2 a0 12 10 (.int 0)).bind fun h4 => (gR h4 a0 12 0).bind fun v5 => (F_X12_breaks a0 v5 a1 h4).bind fun q6 => (F_X12_tell a0 ((q6.1 : Int32).toInt64) q6.2).bind fun h7 => (gR h7 a0 12 0).bind fun v8 => (F_X12_breaks a0 v8 a1 h7).bind fun q9 => (F_J6_bitCount_0f7a4 q9.1 q9.2).bind fun q10 => some (q10.1, q10.2))) else none
theorem K_X12_strike {a0 : Nat} {a1 : Int32} {h : ci_H} {r : Int32 × ci_H} (H : F_X12_strike a0 a1 h = some r) : kO h a0 = some 12 := by
  unfold F_X12_strike at H
  by_cases c : kO h a0 = some 12
  · exact c
  · rw [if_neg c] at H; cases H
set_option maxHeartbeats 4000000 in
set_option maxRecDepth 20000 in
theorem E_X12_strike {xs : Nat → Int32} {N d : Nat} {nx : ci_N} {a0 : Nat} {a1 : Int32} {h : ci_H} {r : Int32 × ci_H} (H : F_X12_strike a0 a1 h = some r) (hd : 4 ≤ d) : Ev xs N d 250 0 (ci_entry [.ref a0, .int a1] 2) [] h nx (oI r nx) := by
  obtain ⟨d, rfl⟩ : ∃ d2, d = d2 + 1 := ⟨d - 1, by omega⟩
  have hd : 3 ≤ d := by omega
  unfold F_X12_strike at H
  by_cases ck : kO h a0 = some 12
  · rw [if_pos ck] at H
    show Ev xs N (d + 1) 250 0 [.ref a0, .int a1] [] h nx _
    refine ev_go hc_X12_strike (k := 2) (pc' := 2) (L' := [.ref a0, .int a1]) (S' := [.int 0, .ref a0]) rfl ?_
    obtain ⟨h1, eh1, H⟩ := Option.bind_eq_some_iff.mp H
    refine ev_5 hc_X12_strike (fe_X12_strike (pc := 2) rfl) (pF_pf eh1) ?_
    refine ev_go hc_X12_strike (k := 2) (pc' := 7) (L' := [.ref a0, .int a1]) (S' := [.int a1, .ref a0]) rfl ?_
    obtain ⟨q2, eq2, H⟩ := Option.bind_eq_some_iff.mp H
    refine ev_call (vs := [.ref a0, .int a1]) (rest := []) (q := q_X12_isHouse) hc_X12_strike (Or.inr rfl) (fe_X12_strike (pc := 7) rfl) ms_175 rfl rfl (Nat.le_of_ble_eq_true rfl) (kO_recv (K_X12_isHouse eq2)) (E_X12_isHouse eq2 (by omega)) rfl ?_
    show Ev xs N (d + 1) 250 10 [.ref a0, .int a1] [.int q2.1] q2.2 nx _
    by_cases c3 : q2.1 = 0
    · rw [if_pos c3] at H
      refine ev_bt hc_X12_strike (fe_X12_strike (pc := 10) rfl) rfl c3 ?_
      refine ev_go hc_X12_strike (k := 1) (pc' := 14) (L' := [.ref a0, .int a1]) (S' := [.int ((-1))]) rfl ?_
      obtain rfl := Option.some.inj H
      exact ev_8 hc_X12_strike (fe_X12_strike (pc := 14) rfl) rfl
    · rw [if_neg c3] at H
      refine ev_bf hc_X12_strike (fe_X12_strike (pc := 10) rfl) rfl c3 ?_
      refine ev_go hc_X12_strike (k := 2) (pc' := 17) (L' := [.ref a0, .int a1]) (S' := [.int 0, .ref a0]) rfl ?_
      obtain ⟨h4, eh4, H⟩ := Option.bind_eq_some_iff.mp H
      refine ev_5 hc_X12_strike (fe_X12_strike (pc := 17) rfl) (pF_pf eh4) ?_
      refine ev_go hc_X12_strike (k := 3) (pc' := 23) (L' := [.ref a0, .int a1]) (S' := [.ref a0, .ref a0, .ref a0]) rfl ?_
      obtain ⟨v5, ev5, H⟩ := Option.bind_eq_some_iff.mp H
      refine ev_4 hc_X12_strike (fe_X12_strike (pc := 23) rfl) (gR_gf ev5) ?_
      refine ev_go hc_X12_strike (k := 1) (pc' := 27) (L' := [.ref a0, .int a1]) (S' := [.int a1, .ref v5, .ref a0, .ref a0]) rfl ?_
      obtain ⟨q6, eq6, H⟩ := Option.bind_eq_some_iff.mp H
      refine ev_call (vs := [.ref a0, .ref v5, .int a1]) (rest := [.ref a0]) (q := q_X12_breaks) hc_X12_strike (Or.inr rfl) (fe_X12_strike (pc := 27) rfl) ms_206 rfl rfl (Nat.le_of_ble_eq_true rfl) (kO_recv (K_X12_breaks eq6)) (E_X12_breaks eq6 (by omega)) rfl ?_
      show Ev xs N (d + 1) 250 30 [.ref a0, .int a1] [.int q6.1, .ref a0] q6.2 nx _
      refine ev_go hc_X12_strike (k := 1) (pc' := 31) (L' := [.ref a0, .int a1]) (S' := [.long ((q6.1 : Int32).toInt64), .ref a0]) rfl ?_
      obtain ⟨h7, eh7, H⟩ := Option.bind_eq_some_iff.mp H
      refine ev_call (vs := [.ref a0, .long ((q6.1 : Int32).toInt64)]) (rest := []) (q := q_X12_tell) hc_X12_strike (Or.inr rfl) (fe_X12_strike (pc := 31) rfl) ms_173 rfl rfl (Nat.le_of_ble_eq_true rfl) (kO_recv (K_X12_tell eh7)) (E_X12_tell eh7 (by omega)) rfl ?_
      show Ev xs N (d + 1) 250 34 [.ref a0, .int a1] [] h7 nx _
      refine ev_go hc_X12_strike (k := 2) (pc' := 36) (L' := [.ref a0, .int a1]) (S' := [.ref a0, .ref a0]) rfl ?_
      obtain ⟨v8, ev8, H⟩ := Option.bind_eq_some_iff.mp H
      refine ev_4 hc_X12_strike (fe_X12_strike (pc := 36) rfl) (gR_gf ev8) ?_
      refine ev_go hc_X12_strike (k := 1) (pc' := 40) (L' := [.ref a0, .int a1]) (S' := [.int a1, .ref v8, .ref a0]) rfl ?_
      obtain ⟨q9, eq9, H⟩ := Option.bind_eq_some_iff.mp H
      refine ev_call (vs := [.ref a0, .ref v8, .int a1]) (rest := []) (q := q_X12_breaks) hc_X12_strike (Or.inr rfl) (fe_X12_strike (pc := 40) rfl) ms_206 rfl rfl (Nat.le_of_ble_eq_true rfl) (kO_recv (K_X12_breaks eq9)) (E_X12_breaks eq9 (by omega)) rfl ?_
      show Ev xs N (d + 1) 250 43 [.ref a0, .int a1] [.int q9.1] q9.2 nx _
      obtain ⟨q10, eq10, H⟩ := Option.bind_eq_some_iff.mp H
      refine ev_call (vs := [.int q9.1]) (rest := []) (q := q_J6_bitCount_0f7a4) hc_X12_strike (Or.inl rfl) (fe_X12_strike (pc := 43) rfl) ms_285 rfl rfl (Nat.le_of_ble_eq_true rfl) rfl (E_J6_bitCount_0f7a4 eq10 (by omega)) rfl ?_
      show Ev xs N (d + 1) 250 46 [.ref a0, .int a1] [.int q10.1] q10.2 nx _
      obtain rfl := Option.some.inj H
      exact ev_8 hc_X12_strike (fe_X12_strike (pc := 46) rfl) rfl
  · rw [if_neg ck] at H; cases H
theorem hc_X12_border : ci_code (ci_Ms 251) = k_X12_border := rfl
theorem fe_X12_border {pc : Nat} {w : Option ci_I} (h : (k_X12_border)[pc]? = some w) : (k_X12_border)[pc]? = some w := h
def b_X12_border_116 (r_13 : Int32 → Int32 → Int32 → ci_H → Option (Int32 × ci_H)) (r_24 : Int32 → Int32 → Int32 → ci_H → Option (Int32 × ci_H)) (l0 : Nat) (l1 : Int32) (l2 : Int32) (l3 : Int32) (l4 : Int32)  (h : ci_H) : Option (Int32 × ci_H) := r_24 l1 l2 (l4 + 1) h
set_option maxHeartbeats 4000000 in
set_option maxRecDepth 20000 in
theorem eb_X12_border_116 {xs : Nat → Int32} {N d : Nat} {nx : ci_N} {r_13 : Int32 → Int32 → Int32 → ci_H → Option (Int32 × ci_H)} {r_24 : Int32 → Int32 → Int32 → ci_H → Option (Int32 × ci_H)} {l0 : Nat} {l1 : Int32} {l2 : Int32} {l3 : Int32} {l4 : Int32} (hd : 4 ≤ d) (h_13 : ∀ (l1 : Int32) (l2 : Int32) (l3 : Int32) (h : ci_H) (r : Int32 × ci_H), r_13 l1 l2 l3 h = some r → Ev xs N (d + 1) 251 13 [.ref l0, .int l1, .int l2, .int l3, ci_junk, ci_junk] [] h nx (oI r nx)) (h_24 : ∀ (l1 : Int32) (l2 : Int32) (l4 : Int32) (h : ci_H) (r : Int32 × ci_H), r_24 l1 l2 l4 h = some r → Ev xs N (d + 1) 251 24 [.ref l0, .int l1, .int l2, .int l3, .int l4, ci_junk] [] h nx (oI r nx)) {h : ci_H} {r : Int32 × ci_H} (H : b_X12_border_116 r_13 r_24 l0 l1 l2 l3 l4 h = some r) : Ev xs N (d + 1) 251 116 [.ref l0, .int l1, .int l2, .int l3, .int l4, ci_junk] [] h nx (oI r nx) := by
  unfold b_X12_border_116 at H
  refine ev_go hc_X12_border (k := 2) (pc' := 24) (L' := [.ref l0, .int l1, .int l2, .int l3, .int (l4 + 1), ci_junk]) (S' := []) rfl ?_
  exact Ev.weak (ci_le_c (Or.inr rfl) (ci_le_c (Or.inr rfl) (ci_le_c (Or.inr rfl) (ci_le_c (Or.inr rfl) (ci_le_c (Or.inr rfl) (ci_le_c (Or.inl rfl) (ci_le_n))))))) (h_24 _ _ _ _ _ H)
def b_X12_border_24 (r_13 : Int32 → Int32 → Int32 → ci_H → Option (Int32 × ci_H)) (l0 : Nat) (l3 : Int32) : Nat → Int32 → Int32 → Int32 → ci_H → Option (Int32 × ci_H)
  | 0, _, _, _, _ => none
  | n + 1, l1, l2, l4, h => if 6 ≤ l4 then (r_13 l1 l2 (l3 + 1) h) else ((gR h l0 12 4).bind fun v2 => (rI h v2 l3).bind fun v3 => (gR h l0 12 5).bind fun v4 => (rI h v4 l3).bind fun v5 => (F_X12_has (v3 ||| v5) l4 h).bind fun q6 => if q6.1 = 0 then ((gR q6.2 l0 12 4).bind fun v8 => (rI q6.2 v8 l3).bind fun v9 => (wI q6.2 v8 l3 (v9 ||| ((1 : Int32) <<< (l4 &&& 31)))).bind fun h10 => (gR h10 l0 12 0).bind fun v11 => (F_X12_brokenHouses l0 v11 h10).bind fun q12 => (F_J6_bitCount_0f7a4 q12.1 q12.2).bind fun q13 => (gR q13.2 l0 12 4).bind fun v14 => (rI q13.2 v14 l3).bind fun v15 => (wI q13.2 v14 l3 (v15 &&& (((1 : Int32) <<< (l4 &&& 31)) ^^^ ((-1))))).bind fun h16 => if q13.1 < l2 then (b_X12_border_116 r_13 (fun x0 x1 x2 x3 => b_X12_border_24 r_13 l0 l3 n x0 x1 x2 x3) l0 ((6 * l3) + l4) q13.1 l3 l4 h16) else (b_X12_border_116 r_13 (fun x0 x1 x2 x3 => b_X12_border_24 r_13 l0 l3 n x0 x1 x2 x3) l0 l1 l2 l3 l4 h16)) else (b_X12_border_116 r_13 (fun x0 x1 x2 x3 => b_X12_border_24 r_13 l0 l3 n x0 x1 x2 x3) l0 l1 l2 l3 l4 q6.2))
set_option maxHeartbeats 4000000 in
set_option maxRecDepth 20000 in
theorem eb_X12_border_24 {xs : Nat → Int32} {N d : Nat} {nx : ci_N} {r_13 : Int32 → Int32 → Int32 → ci_H → Option (Int32 × ci_H)} {l0 : Nat} {l3 : Int32} (hd : 4 ≤ d) (h_13 : ∀ (l1 : Int32) (l2 : Int32) (l3 : Int32) (h : ci_H) (r : Int32 × ci_H), r_13 l1 l2 l3 h = some r → Ev xs N (d + 1) 251 13 [.ref l0, .int l1, .int l2, .int l3, ci_junk, ci_junk] [] h nx (oI r nx)) : ∀ (n : Nat) (l1 : Int32) (l2 : Int32) (l4 : Int32) (h : ci_H) (r : Int32 × ci_H), b_X12_border_24 r_13 l0 l3 n l1 l2 l4 h = some r → Ev xs N (d + 1) 251 24 [.ref l0, .int l1, .int l2, .int l3, .int l4, ci_junk] [] h nx (oI r nx) := by
  intro n
  induction n with
  | zero => intro l1 l2 l4 h r H; unfold b_X12_border_24 at H; cases H
  | succ n ih =>
    intro l1 l2 l4 h r H
    unfold b_X12_border_24 at H
    refine ev_go hc_X12_border (k := 2) (pc' := 28) (L' := [.ref l0, .int l1, .int l2, .int l3, .int l4, ci_junk]) (S' := [.int 6, .int l4]) rfl ?_
    by_cases c1 : 6 ≤ l4
    · rw [if_pos c1] at H
      refine ev_bt hc_X12_border (fe_X12_border (pc := 28) rfl) rfl c1 ?_
      refine ev_go hc_X12_border (k := 2) (pc' := 13) (L' := [.ref l0, .int l1, .int l2, .int (l3 + 1), .int l4, ci_junk]) (S' := []) rfl ?_
      exact Ev.weak (ci_le_c (Or.inr rfl) (ci_le_c (Or.inr rfl) (ci_le_c (Or.inr rfl) (ci_le_c (Or.inr rfl) (ci_le_c (Or.inl rfl) (ci_le_c (Or.inl rfl) (ci_le_n))))))) (h_13 _ _ _ _ _ H)
    · rw [if_neg c1] at H
      refine ev_bf hc_X12_border (fe_X12_border (pc := 28) rfl) rfl c1 ?_
      refine ev_go hc_X12_border (k := 1) (pc' := 32) (L' := [.ref l0, .int l1, .int l2, .int l3, .int l4, ci_junk]) (S' := [.ref l0]) rfl ?_
      obtain ⟨v2, ev2, H⟩ := Option.bind_eq_some_iff.mp H
      refine ev_4 hc_X12_border (fe_X12_border (pc := 32) rfl) (gR_gf ev2) ?_
      refine ev_go hc_X12_border (k := 1) (pc' := 36) (L' := [.ref l0, .int l1, .int l2, .int l3, .int l4, ci_junk]) (S' := [.int l3, .ref v2]) rfl ?_
      obtain ⟨v3, ev3, H⟩ := Option.bind_eq_some_iff.mp H
      refine ev_4 hc_X12_border (fe_X12_border (pc := 36) rfl) (rI_al ev3) ?_
      refine ev_go hc_X12_border (k := 1) (pc' := 38) (L' := [.ref l0, .int l1, .int l2, .int l3, .int l4, ci_junk]) (S' := [.ref l0, .int v3]) rfl ?_
      obtain ⟨v4, ev4, H⟩ := Option.bind_eq_some_iff.mp H
      refine ev_4 hc_X12_border (fe_X12_border (pc := 38) rfl) (gR_gf ev4) ?_
      refine ev_go hc_X12_border (k := 1) (pc' := 42) (L' := [.ref l0, .int l1, .int l2, .int l3, .int l4, ci_junk]) (S' := [.int l3, .ref v4, .int v3]) rfl ?_
      obtain ⟨v5, ev5, H⟩ := Option.bind_eq_some_iff.mp H
      refine ev_4 hc_X12_border (fe_X12_border (pc := 42) rfl) (rI_al ev5) ?_
      refine ev_go hc_X12_border (k := 2) (pc' := 46) (L' := [.ref l0, .int l1, .int l2, .int l3, .int l4, ci_junk]) (S' := [.int l4, .int (v3 ||| v5)]) rfl ?_
      obtain ⟨q6, eq6, H⟩ := Option.bind_eq_some_iff.mp H
      refine ev_call (vs := [.int (v3 ||| v5), .int l4]) (rest := []) (q := q_X12_has) hc_X12_border (Or.inl rfl) (fe_X12_border (pc := 46) rfl) ms_171 rfl rfl (Nat.le_of_ble_eq_true rfl) rfl (E_X12_has eq6 (by omega)) rfl ?_
      show Ev xs N (d + 1) 251 49 [.ref l0, .int l1, .int l2, .int l3, .int l4, ci_junk] [.int q6.1] q6.2 nx _
      by_cases c7 : q6.1 = 0
      · rw [if_pos c7] at H
        refine ev_bt hc_X12_border (fe_X12_border (pc := 49) rfl) rfl c7 ?_
        refine ev_go hc_X12_border (k := 1) (pc' := 56) (L' := [.ref l0, .int l1, .int l2, .int l3, .int l4, ci_junk]) (S' := [.ref l0]) rfl ?_
        obtain ⟨v8, ev8, H⟩ := Option.bind_eq_some_iff.mp H
        refine ev_4 hc_X12_border (fe_X12_border (pc := 56) rfl) (gR_gf ev8) ?_
        refine ev_go hc_X12_border (k := 2) (pc' := 61) (L' := [.ref l0, .int l1, .int l2, .int l3, .int l4, ci_junk]) (S' := [.int l3, .ref v8, .int l3, .ref v8]) rfl ?_
        obtain ⟨v9, ev9, H⟩ := Option.bind_eq_some_iff.mp H
        refine ev_4 hc_X12_border (fe_X12_border (pc := 61) rfl) (rI_al ev9) ?_
        refine ev_go hc_X12_border (k := 4) (pc' := 67) (L' := [.ref l0, .int l1, .int l2, .int l3, .int l4, ci_junk]) (S' := [.int (v9 ||| ((1 : Int32) <<< (l4 &&& 31))), .int l3, .ref v8]) rfl ?_
        obtain ⟨h10, eh10, H⟩ := Option.bind_eq_some_iff.mp H
        refine ev_5 hc_X12_border (fe_X12_border (pc := 67) rfl) (wI_as eh10) ?_
        refine ev_go hc_X12_border (k := 2) (pc' := 70) (L' := [.ref l0, .int l1, .int l2, .int l3, .int l4, ci_junk]) (S' := [.ref l0, .ref l0]) rfl ?_
        obtain ⟨v11, ev11, H⟩ := Option.bind_eq_some_iff.mp H
        refine ev_4 hc_X12_border (fe_X12_border (pc := 70) rfl) (gR_gf ev11) ?_
        obtain ⟨q12, eq12, H⟩ := Option.bind_eq_some_iff.mp H
        refine ev_call (vs := [.ref l0, .ref v11]) (rest := []) (q := q_X12_brokenHouses) hc_X12_border (Or.inr rfl) (fe_X12_border (pc := 73) rfl) ms_207 rfl rfl (Nat.le_of_ble_eq_true rfl) (kO_recv (K_X12_brokenHouses eq12)) (E_X12_brokenHouses eq12 (by omega)) rfl ?_
        show Ev xs N (d + 1) 251 76 [.ref l0, .int l1, .int l2, .int l3, .int l4, ci_junk] [.int q12.1] q12.2 nx _
        obtain ⟨q13, eq13, H⟩ := Option.bind_eq_some_iff.mp H
        refine ev_call (vs := [.int q12.1]) (rest := []) (q := q_J6_bitCount_0f7a4) hc_X12_border (Or.inl rfl) (fe_X12_border (pc := 76) rfl) ms_285 rfl rfl (Nat.le_of_ble_eq_true rfl) rfl (E_J6_bitCount_0f7a4 eq13 (by omega)) rfl ?_
        show Ev xs N (d + 1) 251 79 [.ref l0, .int l1, .int l2, .int l3, .int l4, ci_junk] [.int q13.1] q13.2 nx _
        refine ev_go hc_X12_border (k := 2) (pc' := 82) (L' := [.ref l0, .int l1, .int l2, .int l3, .int l4, .int q13.1]) (S' := [.ref l0]) rfl ?_
        obtain ⟨v14, ev14, H⟩ := Option.bind_eq_some_iff.mp H
        refine ev_4 hc_X12_border (fe_X12_border (pc := 82) rfl) (gR_gf ev14) ?_
        refine ev_go hc_X12_border (k := 2) (pc' := 87) (L' := [.ref l0, .int l1, .int l2, .int l3, .int l4, .int q13.1]) (S' := [.int l3, .ref v14, .int l3, .ref v14]) rfl ?_
        obtain ⟨v15, ev15, H⟩ := Option.bind_eq_some_iff.mp H
        refine ev_4 hc_X12_border (fe_X12_border (pc := 87) rfl) (rI_al ev15) ?_
        refine ev_go hc_X12_border (k := 6) (pc' := 95) (L' := [.ref l0, .int l1, .int l2, .int l3, .int l4, .int q13.1]) (S' := [.int (v15 &&& (((1 : Int32) <<< (l4 &&& 31)) ^^^ ((-1)))), .int l3, .ref v14]) rfl ?_
        obtain ⟨h16, eh16, H⟩ := Option.bind_eq_some_iff.mp H
        refine ev_5 hc_X12_border (fe_X12_border (pc := 95) rfl) (wI_as eh16) ?_
        refine ev_go hc_X12_border (k := 2) (pc' := 99) (L' := [.ref l0, .int l1, .int l2, .int l3, .int l4, .int q13.1]) (S' := [.int l2, .int q13.1]) rfl ?_
        by_cases c17 : q13.1 < l2
        · rw [if_pos c17] at H
          refine ev_bt hc_X12_border (fe_X12_border (pc := 99) rfl) rfl c17 ?_
          refine ev_go hc_X12_border (k := 8) (pc' := 116) (L' := [.ref l0, .int ((6 * l3) + l4), .int q13.1, .int l3, .int l4, .int q13.1]) (S' := []) rfl ?_
          exact Ev.weak (ci_le_c (Or.inr rfl) (ci_le_c (Or.inr rfl) (ci_le_c (Or.inr rfl) (ci_le_c (Or.inr rfl) (ci_le_c (Or.inr rfl) (ci_le_c (Or.inl rfl) (ci_le_n))))))) (eb_X12_border_116 hd h_13 ih H)
        · rw [if_neg c17] at H
          refine ev_bf hc_X12_border (fe_X12_border (pc := 99) rfl) rfl c17 ?_
          refine ev_go hc_X12_border (k := 1) (pc' := 116) (L' := [.ref l0, .int l1, .int l2, .int l3, .int l4, .int q13.1]) (S' := []) rfl ?_
          exact Ev.weak (ci_le_c (Or.inr rfl) (ci_le_c (Or.inr rfl) (ci_le_c (Or.inr rfl) (ci_le_c (Or.inr rfl) (ci_le_c (Or.inr rfl) (ci_le_c (Or.inl rfl) (ci_le_n))))))) (eb_X12_border_116 hd h_13 ih H)
      · rw [if_neg c7] at H
        refine ev_bf hc_X12_border (fe_X12_border (pc := 49) rfl) rfl c7 ?_
        refine ev_go hc_X12_border (k := 1) (pc' := 116) (L' := [.ref l0, .int l1, .int l2, .int l3, .int l4, ci_junk]) (S' := []) rfl ?_
        exact Ev.weak (ci_le_c (Or.inr rfl) (ci_le_c (Or.inr rfl) (ci_le_c (Or.inr rfl) (ci_le_c (Or.inr rfl) (ci_le_c (Or.inr rfl) (ci_le_c (Or.inl rfl) (ci_le_n))))))) (eb_X12_border_116 hd h_13 ih H)
def b_X12_border_13 (l0 : Nat) : Nat → Int32 → Int32 → Int32 → ci_H → Option (Int32 × ci_H)
  | 0, _, _, _, _ => none
  | n + 1, l1, l2, l3, h => (gI h l0 12 3).bind fun v1 => if v1 ≤ l3 then (if l1 = ((-1)) then (some ((-2), h)) else ((pF h l0 12 10 (.int 0)).bind fun h4 => (F_X12_tell l0 ((l2 : Int32).toInt64) h4).bind fun h5 => some (l1, h5))) else (b_X12_border_24 (fun x0 x1 x2 x3 => b_X12_border_13 l0 n x0 x1 x2 x3) l0 l3 bigN l1 l2 0 h)
set_option maxHeartbeats 4000000 in
set_option maxRecDepth 20000 in
theorem eb_X12_border_13 {xs : Nat → Int32} {N d : Nat} {nx : ci_N} {l0 : Nat} (hd : 4 ≤ d) : ∀ (n : Nat) (l1 : Int32) (l2 : Int32) (l3 : Int32) (h : ci_H) (r : Int32 × ci_H), b_X12_border_13 l0 n l1 l2 l3 h = some r → Ev xs N (d + 1) 251 13 [.ref l0, .int l1, .int l2, .int l3, ci_junk, ci_junk] [] h nx (oI r nx) := by
  intro n
  induction n with
  | zero => intro l1 l2 l3 h r H; unfold b_X12_border_13 at H; cases H
  | succ n ih =>
    intro l1 l2 l3 h r H
    unfold b_X12_border_13 at H
    refine ev_go hc_X12_border (k := 2) (pc' := 15) (L' := [.ref l0, .int l1, .int l2, .int l3, ci_junk, ci_junk]) (S' := [.ref l0, .int l3]) rfl ?_
    obtain ⟨v1, ev1, H⟩ := Option.bind_eq_some_iff.mp H
    refine ev_4 hc_X12_border (fe_X12_border (pc := 15) rfl) (gI_gf ev1) ?_
    by_cases c2 : v1 ≤ l3
    · rw [if_pos c2] at H
      refine ev_bt hc_X12_border (fe_X12_border (pc := 18) rfl) rfl c2 ?_
      refine ev_go hc_X12_border (k := 2) (pc' := 130) (L' := [.ref l0, .int l1, .int l2, .int l3, ci_junk, ci_junk]) (S' := [.int ((-1)), .int l1]) rfl ?_
      by_cases c3 : l1 = ((-1))
      · rw [if_pos c3] at H
        refine ev_bt hc_X12_border (fe_X12_border (pc := 130) rfl) rfl c3 ?_
        refine ev_go hc_X12_border (k := 1) (pc' := 135) (L' := [.ref l0, .int l1, .int l2, .int l3, ci_junk, ci_junk]) (S' := [.int ((-2))]) rfl ?_
        obtain rfl := Option.some.inj H
        exact ev_8 hc_X12_border (fe_X12_border (pc := 135) rfl) rfl
      · rw [if_neg c3] at H
        refine ev_bf hc_X12_border (fe_X12_border (pc := 130) rfl) rfl c3 ?_
        refine ev_go hc_X12_border (k := 2) (pc' := 138) (L' := [.ref l0, .int l1, .int l2, .int l3, ci_junk, ci_junk]) (S' := [.int 0, .ref l0]) rfl ?_
        obtain ⟨h4, eh4, H⟩ := Option.bind_eq_some_iff.mp H
        refine ev_5 hc_X12_border (fe_X12_border (pc := 138) rfl) (pF_pf eh4) ?_
        refine ev_go hc_X12_border (k := 3) (pc' := 144) (L' := [.ref l0, .int l1, .int l2, .int l3, ci_junk, ci_junk]) (S' := [.long ((l2 : Int32).toInt64), .ref l0]) rfl ?_
        obtain ⟨h5, eh5, H⟩ := Option.bind_eq_some_iff.mp H
        refine ev_call (vs := [.ref l0, .long ((l2 : Int32).toInt64)]) (rest := []) (q := q_X12_tell) hc_X12_border (Or.inr rfl) (fe_X12_border (pc := 144) rfl) ms_173 rfl rfl (Nat.le_of_ble_eq_true rfl) (kO_recv (K_X12_tell eh5)) (E_X12_tell eh5 (by omega)) rfl ?_
        show Ev xs N (d + 1) 251 147 [.ref l0, .int l1, .int l2, .int l3, ci_junk, ci_junk] [] h5 nx _
        refine ev_go hc_X12_border (k := 1) (pc' := 148) (L' := [.ref l0, .int l1, .int l2, .int l3, ci_junk, ci_junk]) (S' := [.int l1]) rfl ?_
        obtain rfl := Option.some.inj H
        exact ev_8 hc_X12_border (fe_X12_border (pc := 148) rfl) rfl
    · rw [if_neg c2] at H
      refine ev_bf hc_X12_border (fe_X12_border (pc := 18) rfl) rfl c2 ?_
      refine ev_go hc_X12_border (k := 2) (pc' := 24) (L' := [.ref l0, .int l1, .int l2, .int l3, .int 0, ci_junk]) (S' := []) rfl ?_
      exact Ev.weak (ci_le_c (Or.inr rfl) (ci_le_c (Or.inr rfl) (ci_le_c (Or.inr rfl) (ci_le_c (Or.inr rfl) (ci_le_c (Or.inr rfl) (ci_le_c (Or.inl rfl) (ci_le_n))))))) (eb_X12_border_24 hd ih bigN _ _ _ _ _ H)
def F_X12_border (a0 : Nat) (h : ci_H) : Option (Int32 × ci_H) := if kO h a0 = some 12 then ((pF h a0 12 11 (.int 0)).bind fun h1 => b_X12_border_13 a0 bigN ((-1)) 1000000 0 h1) else none
theorem K_X12_border {a0 : Nat} {h : ci_H} {r : Int32 × ci_H} (H : F_X12_border a0 h = some r) : kO h a0 = some 12 := by
  unfold F_X12_border at H
  by_cases c : kO h a0 = some 12
  · exact c
  · rw [if_neg c] at H; cases H
set_option maxHeartbeats 4000000 in
set_option maxRecDepth 20000 in
theorem E_X12_border {xs : Nat → Int32} {N d : Nat} {nx : ci_N} {a0 : Nat} {h : ci_H} {r : Int32 × ci_H} (H : F_X12_border a0 h = some r) (hd : 5 ≤ d) : Ev xs N d 251 0 (ci_entry [.ref a0] 6) [] h nx (oI r nx) := by
  obtain ⟨d, rfl⟩ : ∃ d2, d = d2 + 1 := ⟨d - 1, by omega⟩
  have hd : 4 ≤ d := by omega
  unfold F_X12_border at H
  by_cases ck : kO h a0 = some 12
  · rw [if_pos ck] at H
    show Ev xs N (d + 1) 251 0 [.ref a0, ci_junk, ci_junk, ci_junk, ci_junk, ci_junk] [] h nx _
    refine ev_go hc_X12_border (k := 2) (pc' := 2) (L' := [.ref a0, ci_junk, ci_junk, ci_junk, ci_junk, ci_junk]) (S' := [.int 0, .ref a0]) rfl ?_
    obtain ⟨h1, eh1, H⟩ := Option.bind_eq_some_iff.mp H
    refine ev_5 hc_X12_border (fe_X12_border (pc := 2) rfl) (pF_pf eh1) ?_
    refine ev_go hc_X12_border (k := 6) (pc' := 13) (L' := [.ref a0, .int ((-1)), .int 1000000, .int 0, ci_junk, ci_junk]) (S' := []) rfl ?_
    exact Ev.weak (ci_le_c (Or.inr rfl) (ci_le_c (Or.inr rfl) (ci_le_c (Or.inr rfl) (ci_le_c (Or.inr rfl) (ci_le_c (Or.inl rfl) (ci_le_c (Or.inl rfl) (ci_le_n))))))) (eb_X12_border_13 hd bigN _ _ _ _ _ H)
  · rw [if_neg ck] at H; cases H
theorem hc_X12_exchange : ci_code (ci_Ms 252) = k_X12_exchange := rfl
theorem fe_X12_exchange {pc : Nat} {w : Option ci_I} (h : (k_X12_exchange)[pc]? = some w) : (k_X12_exchange)[pc]? = some w := h
def b_X12_exchange_186 (r_38 : Int32 → Int32 → ci_H → Option (Int32 × ci_H)) (r_50 : Int32 → Int32 → ci_H → Option (Int32 × ci_H)) (l0 : Nat) (l1 : Int32) (l2 : Int32) (l3 : Int32) (l4 : Int32) (l5 : Int32)  (h : ci_H) : Option (Int32 × ci_H) := r_50 l3 (l5 + 1) h
set_option maxHeartbeats 4000000 in
set_option maxRecDepth 20000 in
theorem eb_X12_exchange_186 {xs : Nat → Int32} {N d : Nat} {nx : ci_N} {r_38 : Int32 → Int32 → ci_H → Option (Int32 × ci_H)} {r_50 : Int32 → Int32 → ci_H → Option (Int32 × ci_H)} {l0 : Nat} {l1 : Int32} {l2 : Int32} {l3 : Int32} {l4 : Int32} {l5 : Int32} (hd : 2 ≤ d) (h_38 : ∀ (l3 : Int32) (l4 : Int32) (h : ci_H) (r : Int32 × ci_H), r_38 l3 l4 h = some r → Ev xs N (d + 1) 252 38 [.ref l0, .int l1, .int l2, .int l3, .int l4, ci_junk, ci_junk, ci_junk] [] h nx (oI r nx)) (h_50 : ∀ (l3 : Int32) (l5 : Int32) (h : ci_H) (r : Int32 × ci_H), r_50 l3 l5 h = some r → Ev xs N (d + 1) 252 50 [.ref l0, .int l1, .int l2, .int l3, .int l4, .int l5, ci_junk, ci_junk] [] h nx (oI r nx)) {h : ci_H} {r : Int32 × ci_H} (H : b_X12_exchange_186 r_38 r_50 l0 l1 l2 l3 l4 l5 h = some r) : Ev xs N (d + 1) 252 186 [.ref l0, .int l1, .int l2, .int l3, .int l4, .int l5, ci_junk, ci_junk] [] h nx (oI r nx) := by
  unfold b_X12_exchange_186 at H
  refine ev_go hc_X12_exchange (k := 2) (pc' := 50) (L' := [.ref l0, .int l1, .int l2, .int l3, .int l4, .int (l5 + 1), ci_junk, ci_junk]) (S' := []) rfl ?_
  exact Ev.weak (ci_le_c (Or.inr rfl) (ci_le_c (Or.inr rfl) (ci_le_c (Or.inr rfl) (ci_le_c (Or.inr rfl) (ci_le_c (Or.inr rfl) (ci_le_c (Or.inr rfl) (ci_le_c (Or.inl rfl) (ci_le_c (Or.inl rfl) (ci_le_n))))))))) (h_50 _ _ _ _ H)
def b_X12_exchange_183 (r_38 : Int32 → Int32 → ci_H → Option (Int32 × ci_H)) (r_50 : Int32 → Int32 → ci_H → Option (Int32 × ci_H)) (l0 : Nat) (l1 : Int32) (l2 : Int32) (l3 : Int32) (l4 : Int32) (l5 : Int32)  (h : ci_H) : Option (Int32 × ci_H) := b_X12_exchange_186 r_38 r_50 l0 l1 l2 (l3 + 1) l4 l5 h
set_option maxHeartbeats 4000000 in
set_option maxRecDepth 20000 in
theorem eb_X12_exchange_183 {xs : Nat → Int32} {N d : Nat} {nx : ci_N} {r_38 : Int32 → Int32 → ci_H → Option (Int32 × ci_H)} {r_50 : Int32 → Int32 → ci_H → Option (Int32 × ci_H)} {l0 : Nat} {l1 : Int32} {l2 : Int32} {l3 : Int32} {l4 : Int32} {l5 : Int32} (hd : 2 ≤ d) (h_38 : ∀ (l3 : Int32) (l4 : Int32) (h : ci_H) (r : Int32 × ci_H), r_38 l3 l4 h = some r → Ev xs N (d + 1) 252 38 [.ref l0, .int l1, .int l2, .int l3, .int l4, ci_junk, ci_junk, ci_junk] [] h nx (oI r nx)) (h_50 : ∀ (l3 : Int32) (l5 : Int32) (h : ci_H) (r : Int32 × ci_H), r_50 l3 l5 h = some r → Ev xs N (d + 1) 252 50 [.ref l0, .int l1, .int l2, .int l3, .int l4, .int l5, ci_junk, ci_junk] [] h nx (oI r nx)) {h : ci_H} {r : Int32 × ci_H} (H : b_X12_exchange_183 r_38 r_50 l0 l1 l2 l3 l4 l5 h = some r) : Ev xs N (d + 1) 252 183 [.ref l0, .int l1, .int l2, .int l3, .int l4, .int l5, ci_junk, ci_junk] [] h nx (oI r nx) := by
  unfold b_X12_exchange_183 at H
  refine ev_go hc_X12_exchange (k := 1) (pc' := 186) (L' := [.ref l0, .int l1, .int l2, .int (l3 + 1), .int l4, .int l5, ci_junk, ci_junk]) (S' := []) rfl ?_
  exact Ev.weak (ci_le_c (Or.inr rfl) (ci_le_c (Or.inr rfl) (ci_le_c (Or.inr rfl) (ci_le_c (Or.inr rfl) (ci_le_c (Or.inr rfl) (ci_le_c (Or.inr rfl) (ci_le_c (Or.inl rfl) (ci_le_c (Or.inl rfl) (ci_le_n))))))))) (eb_X12_exchange_186 hd h_38 h_50 H)
def b_X12_exchange_50 (r_38 : Int32 → Int32 → ci_H → Option (Int32 × ci_H)) (l0 : Nat) (l1 : Int32) (l2 : Int32) (l4 : Int32) : Nat → Int32 → Int32 → ci_H → Option (Int32 × ci_H)
  | 0, _, _, _ => none
  | n + 1, l3, l5, h => (gI h l0 12 2).bind fun v1 => if v1 ≤ l5 then (r_38 l3 (l4 + 1) h) else ((gR h l0 12 0).bind fun v3 => (rI h v3 (24 + l4)).bind fun v4 => if v4 = l1 then ((gR h l0 12 0).bind fun v6 => (rI h v6 (24 + l5)).bind fun v7 => if v7 = l2 then ((gR h l0 12 0).bind fun v9 => (F_X12_keptBy l0 v9 l1 h).bind fun q10 => (gR q10.2 l0 12 0).bind fun v11 => (F_X12_keptBy l0 v11 l2 q10.2).bind fun q12 => (gR q12.2 l0 12 0).bind fun v13 => (F_X12_brokenBy l0 v13 ((q10.1 &&& (((1 : Int32) <<< (l4 &&& 31)) ^^^ ((-1)))) ||| ((1 : Int32) <<< (l5 &&& 31))) q12.2).bind fun q14 => if q14.1 = 0 then ((gR q14.2 l0 12 0).bind fun v16 => (F_X12_brokenBy l0 v16 ((q12.1 &&& (((1 : Int32) <<< (l5 &&& 31)) ^^^ ((-1)))) ||| ((1 : Int32) <<< (l4 &&& 31))) q14.2).bind fun q17 => if q17.1 = 0 then (if l3 = 0 then ((F_X12_tell l0 ((l4 : Int32).toInt64) q17.2).bind fun h20 => (F_X12_tell l0 ((l5 : Int32).toInt64) h20).bind fun h21 => b_X12_exchange_183 r_38 (fun x0 x1 x2 => b_X12_exchange_50 r_38 l0 l1 l2 l4 n x0 x1 x2) l0 l1 l2 l3 l4 l5 h21) else (b_X12_exchange_183 r_38 (fun x0 x1 x2 => b_X12_exchange_50 r_38 l0 l1 l2 l4 n x0 x1 x2) l0 l1 l2 l3 l4 l5 q17.2)) else (b_X12_exchange_186 r_38 (fun x0 x1 x2 => b_X12_exchange_50 r_38 l0 l1 l2 l4 n x0 x1 x2) l0 l1 l2 l3 l4 l5 q17.2)) else (b_X12_exchange_186 r_38 (fun x0 x1 x2 => b_X12_exchange_50 r_38 l0 l1 l2 l4 n x0 x1 x2) l0 l1 l2 l3 l4 l5 q14.2)) else (b_X12_exchange_186 r_38 (fun x0 x1 x2 => b_X12_exchange_50 r_38 l0 l1 l2 l4 n x0 x1 x2) l0 l1 l2 l3 l4 l5 h)) else (b_X12_exchange_186 r_38 (fun x0 x1 x2 => b_X12_exchange_50 r_38 l0 l1 l2 l4 n x0 x1 x2) l0 l1 l2 l3 l4 l5 h))
set_option maxHeartbeats 4000000 in
set_option maxRecDepth 20000 in
theorem eb_X12_exchange_50 {xs : Nat → Int32} {N d : Nat} {nx : ci_N} {r_38 : Int32 → Int32 → ci_H → Option (Int32 × ci_H)} {l0 : Nat} {l1 : Int32} {l2 : Int32} {l4 : Int32} (hd : 2 ≤ d) (h_38 : ∀ (l3 : Int32) (l4 : Int32) (h : ci_H) (r : Int32 × ci_H), r_38 l3 l4 h = some r → Ev xs N (d + 1) 252 38 [.ref l0, .int l1, .int l2, .int l3, .int l4, ci_junk, ci_junk, ci_junk] [] h nx (oI r nx)) : ∀ (n : Nat) (l3 : Int32) (l5 : Int32) (h : ci_H) (r : Int32 × ci_H), b_X12_exchange_50 r_38 l0 l1 l2 l4 n l3 l5 h = some r → Ev xs N (d + 1) 252 50 [.ref l0, .int l1, .int l2, .int l3, .int l4, .int l5, ci_junk, ci_junk] [] h nx (oI r nx) := by
  intro n
  induction n with
  | zero => intro l3 l5 h r H; unfold b_X12_exchange_50 at H; cases H
  | succ n ih =>
    intro l3 l5 h r H
    unfold b_X12_exchange_50 at H
    refine ev_go hc_X12_exchange (k := 2) (pc' := 53) (L' := [.ref l0, .int l1, .int l2, .int l3, .int l4, .int l5, ci_junk, ci_junk]) (S' := [.ref l0, .int l5]) rfl ?_
    obtain ⟨v1, ev1, H⟩ := Option.bind_eq_some_iff.mp H
    refine ev_4 hc_X12_exchange (fe_X12_exchange (pc := 53) rfl) (gI_gf ev1) ?_
    by_cases c2 : v1 ≤ l5
    · rw [if_pos c2] at H
      refine ev_bt hc_X12_exchange (fe_X12_exchange (pc := 56) rfl) rfl c2 ?_
      refine ev_go hc_X12_exchange (k := 2) (pc' := 38) (L' := [.ref l0, .int l1, .int l2, .int l3, .int (l4 + 1), .int l5, ci_junk, ci_junk]) (S' := []) rfl ?_
      exact Ev.weak (ci_le_c (Or.inr rfl) (ci_le_c (Or.inr rfl) (ci_le_c (Or.inr rfl) (ci_le_c (Or.inr rfl) (ci_le_c (Or.inr rfl) (ci_le_c (Or.inl rfl) (ci_le_c (Or.inl rfl) (ci_le_c (Or.inl rfl) (ci_le_n))))))))) (h_38 _ _ _ _ H)
    · rw [if_neg c2] at H
      refine ev_bf hc_X12_exchange (fe_X12_exchange (pc := 56) rfl) rfl c2 ?_
      refine ev_go hc_X12_exchange (k := 1) (pc' := 60) (L' := [.ref l0, .int l1, .int l2, .int l3, .int l4, .int l5, ci_junk, ci_junk]) (S' := [.ref l0]) rfl ?_
      obtain ⟨v3, ev3, H⟩ := Option.bind_eq_some_iff.mp H
      refine ev_4 hc_X12_exchange (fe_X12_exchange (pc := 60) rfl) (gR_gf ev3) ?_
      refine ev_go hc_X12_exchange (k := 3) (pc' := 68) (L' := [.ref l0, .int l1, .int l2, .int l3, .int l4, .int l5, ci_junk, ci_junk]) (S' := [.int (24 + l4), .ref v3]) rfl ?_
      obtain ⟨v4, ev4, H⟩ := Option.bind_eq_some_iff.mp H
      refine ev_4 hc_X12_exchange (fe_X12_exchange (pc := 68) rfl) (rI_al ev4) ?_
      refine ev_go hc_X12_exchange (k := 1) (pc' := 70) (L' := [.ref l0, .int l1, .int l2, .int l3, .int l4, .int l5, ci_junk, ci_junk]) (S' := [.int l1, .int v4]) rfl ?_
      by_cases c5 : v4 = l1
      · rw [if_pos c5] at H
        refine ev_bt hc_X12_exchange (fe_X12_exchange (pc := 70) rfl) rfl c5 ?_
        refine ev_go hc_X12_exchange (k := 1) (pc' := 74) (L' := [.ref l0, .int l1, .int l2, .int l3, .int l4, .int l5, ci_junk, ci_junk]) (S' := [.ref l0]) rfl ?_
        obtain ⟨v6, ev6, H⟩ := Option.bind_eq_some_iff.mp H
        refine ev_4 hc_X12_exchange (fe_X12_exchange (pc := 74) rfl) (gR_gf ev6) ?_
        refine ev_go hc_X12_exchange (k := 3) (pc' := 82) (L' := [.ref l0, .int l1, .int l2, .int l3, .int l4, .int l5, ci_junk, ci_junk]) (S' := [.int (24 + l5), .ref v6]) rfl ?_
        obtain ⟨v7, ev7, H⟩ := Option.bind_eq_some_iff.mp H
        refine ev_4 hc_X12_exchange (fe_X12_exchange (pc := 82) rfl) (rI_al ev7) ?_
        refine ev_go hc_X12_exchange (k := 1) (pc' := 84) (L' := [.ref l0, .int l1, .int l2, .int l3, .int l4, .int l5, ci_junk, ci_junk]) (S' := [.int l2, .int v7]) rfl ?_
        by_cases c8 : v7 = l2
        · rw [if_pos c8] at H
          refine ev_bt hc_X12_exchange (fe_X12_exchange (pc := 84) rfl) rfl c8 ?_
          refine ev_go hc_X12_exchange (k := 2) (pc' := 92) (L' := [.ref l0, .int l1, .int l2, .int l3, .int l4, .int l5, ci_junk, ci_junk]) (S' := [.ref l0, .ref l0]) rfl ?_
          obtain ⟨v9, ev9, H⟩ := Option.bind_eq_some_iff.mp H
          refine ev_4 hc_X12_exchange (fe_X12_exchange (pc := 92) rfl) (gR_gf ev9) ?_
          refine ev_go hc_X12_exchange (k := 1) (pc' := 96) (L' := [.ref l0, .int l1, .int l2, .int l3, .int l4, .int l5, ci_junk, ci_junk]) (S' := [.int l1, .ref v9, .ref l0]) rfl ?_
          obtain ⟨q10, eq10, H⟩ := Option.bind_eq_some_iff.mp H
          refine ev_call (vs := [.ref l0, .ref v9, .int l1]) (rest := []) (q := q_X12_keptBy) hc_X12_exchange (Or.inr rfl) (fe_X12_exchange (pc := 96) rfl) ms_202 rfl rfl (Nat.le_of_ble_eq_true rfl) (kO_recv (K_X12_keptBy eq10)) (E_X12_keptBy eq10 (by omega)) rfl ?_
          show Ev xs N (d + 1) 252 99 [.ref l0, .int l1, .int l2, .int l3, .int l4, .int l5, ci_junk, ci_junk] [.int q10.1] q10.2 nx _
          refine ev_go hc_X12_exchange (k := 13) (pc' := 115) (L' := [.ref l0, .int l1, .int l2, .int l3, .int l4, .int l5, .int ((q10.1 &&& (((1 : Int32) <<< (l4 &&& 31)) ^^^ ((-1)))) ||| ((1 : Int32) <<< (l5 &&& 31))), ci_junk]) (S' := [.ref l0, .ref l0]) rfl ?_
          obtain ⟨v11, ev11, H⟩ := Option.bind_eq_some_iff.mp H
          refine ev_4 hc_X12_exchange (fe_X12_exchange (pc := 115) rfl) (gR_gf ev11) ?_
          refine ev_go hc_X12_exchange (k := 1) (pc' := 119) (L' := [.ref l0, .int l1, .int l2, .int l3, .int l4, .int l5, .int ((q10.1 &&& (((1 : Int32) <<< (l4 &&& 31)) ^^^ ((-1)))) ||| ((1 : Int32) <<< (l5 &&& 31))), ci_junk]) (S' := [.int l2, .ref v11, .ref l0]) rfl ?_
          obtain ⟨q12, eq12, H⟩ := Option.bind_eq_some_iff.mp H
          refine ev_call (vs := [.ref l0, .ref v11, .int l2]) (rest := []) (q := q_X12_keptBy) hc_X12_exchange (Or.inr rfl) (fe_X12_exchange (pc := 119) rfl) ms_202 rfl rfl (Nat.le_of_ble_eq_true rfl) (kO_recv (K_X12_keptBy eq12)) (E_X12_keptBy eq12 (by omega)) rfl ?_
          show Ev xs N (d + 1) 252 122 [.ref l0, .int l1, .int l2, .int l3, .int l4, .int l5, .int ((q10.1 &&& (((1 : Int32) <<< (l4 &&& 31)) ^^^ ((-1)))) ||| ((1 : Int32) <<< (l5 &&& 31))), ci_junk] [.int q12.1] q12.2 nx _
          refine ev_go hc_X12_exchange (k := 13) (pc' := 138) (L' := [.ref l0, .int l1, .int l2, .int l3, .int l4, .int l5, .int ((q10.1 &&& (((1 : Int32) <<< (l4 &&& 31)) ^^^ ((-1)))) ||| ((1 : Int32) <<< (l5 &&& 31))), .int ((q12.1 &&& (((1 : Int32) <<< (l5 &&& 31)) ^^^ ((-1)))) ||| ((1 : Int32) <<< (l4 &&& 31)))]) (S' := [.ref l0, .ref l0]) rfl ?_
          obtain ⟨v13, ev13, H⟩ := Option.bind_eq_some_iff.mp H
          refine ev_4 hc_X12_exchange (fe_X12_exchange (pc := 138) rfl) (gR_gf ev13) ?_
          refine ev_go hc_X12_exchange (k := 1) (pc' := 143) (L' := [.ref l0, .int l1, .int l2, .int l3, .int l4, .int l5, .int ((q10.1 &&& (((1 : Int32) <<< (l4 &&& 31)) ^^^ ((-1)))) ||| ((1 : Int32) <<< (l5 &&& 31))), .int ((q12.1 &&& (((1 : Int32) <<< (l5 &&& 31)) ^^^ ((-1)))) ||| ((1 : Int32) <<< (l4 &&& 31)))]) (S' := [.int ((q10.1 &&& (((1 : Int32) <<< (l4 &&& 31)) ^^^ ((-1)))) ||| ((1 : Int32) <<< (l5 &&& 31))), .ref v13, .ref l0]) rfl ?_
          obtain ⟨q14, eq14, H⟩ := Option.bind_eq_some_iff.mp H
          refine ev_call (vs := [.ref l0, .ref v13, .int ((q10.1 &&& (((1 : Int32) <<< (l4 &&& 31)) ^^^ ((-1)))) ||| ((1 : Int32) <<< (l5 &&& 31)))]) (rest := []) (q := q_X12_brokenBy) hc_X12_exchange (Or.inr rfl) (fe_X12_exchange (pc := 143) rfl) ms_205 rfl rfl (Nat.le_of_ble_eq_true rfl) (kO_recv (K_X12_brokenBy eq14)) (E_X12_brokenBy eq14 (by omega)) rfl ?_
          show Ev xs N (d + 1) 252 146 [.ref l0, .int l1, .int l2, .int l3, .int l4, .int l5, .int ((q10.1 &&& (((1 : Int32) <<< (l4 &&& 31)) ^^^ ((-1)))) ||| ((1 : Int32) <<< (l5 &&& 31))), .int ((q12.1 &&& (((1 : Int32) <<< (l5 &&& 31)) ^^^ ((-1)))) ||| ((1 : Int32) <<< (l4 &&& 31)))] [.int q14.1] q14.2 nx _
          by_cases c15 : q14.1 = 0
          · rw [if_pos c15] at H
            refine ev_bt hc_X12_exchange (fe_X12_exchange (pc := 146) rfl) rfl c15 ?_
            refine ev_go hc_X12_exchange (k := 2) (pc' := 151) (L' := [.ref l0, .int l1, .int l2, .int l3, .int l4, .int l5, .int ((q10.1 &&& (((1 : Int32) <<< (l4 &&& 31)) ^^^ ((-1)))) ||| ((1 : Int32) <<< (l5 &&& 31))), .int ((q12.1 &&& (((1 : Int32) <<< (l5 &&& 31)) ^^^ ((-1)))) ||| ((1 : Int32) <<< (l4 &&& 31)))]) (S' := [.ref l0, .ref l0]) rfl ?_
            obtain ⟨v16, ev16, H⟩ := Option.bind_eq_some_iff.mp H
            refine ev_4 hc_X12_exchange (fe_X12_exchange (pc := 151) rfl) (gR_gf ev16) ?_
            refine ev_go hc_X12_exchange (k := 1) (pc' := 156) (L' := [.ref l0, .int l1, .int l2, .int l3, .int l4, .int l5, .int ((q10.1 &&& (((1 : Int32) <<< (l4 &&& 31)) ^^^ ((-1)))) ||| ((1 : Int32) <<< (l5 &&& 31))), .int ((q12.1 &&& (((1 : Int32) <<< (l5 &&& 31)) ^^^ ((-1)))) ||| ((1 : Int32) <<< (l4 &&& 31)))]) (S' := [.int ((q12.1 &&& (((1 : Int32) <<< (l5 &&& 31)) ^^^ ((-1)))) ||| ((1 : Int32) <<< (l4 &&& 31))), .ref v16, .ref l0]) rfl ?_
            obtain ⟨q17, eq17, H⟩ := Option.bind_eq_some_iff.mp H
            refine ev_call (vs := [.ref l0, .ref v16, .int ((q12.1 &&& (((1 : Int32) <<< (l5 &&& 31)) ^^^ ((-1)))) ||| ((1 : Int32) <<< (l4 &&& 31)))]) (rest := []) (q := q_X12_brokenBy) hc_X12_exchange (Or.inr rfl) (fe_X12_exchange (pc := 156) rfl) ms_205 rfl rfl (Nat.le_of_ble_eq_true rfl) (kO_recv (K_X12_brokenBy eq17)) (E_X12_brokenBy eq17 (by omega)) rfl ?_
            show Ev xs N (d + 1) 252 159 [.ref l0, .int l1, .int l2, .int l3, .int l4, .int l5, .int ((q10.1 &&& (((1 : Int32) <<< (l4 &&& 31)) ^^^ ((-1)))) ||| ((1 : Int32) <<< (l5 &&& 31))), .int ((q12.1 &&& (((1 : Int32) <<< (l5 &&& 31)) ^^^ ((-1)))) ||| ((1 : Int32) <<< (l4 &&& 31)))] [.int q17.1] q17.2 nx _
            by_cases c18 : q17.1 = 0
            · rw [if_pos c18] at H
              refine ev_bt hc_X12_exchange (fe_X12_exchange (pc := 159) rfl) rfl c18 ?_
              refine ev_go hc_X12_exchange (k := 1) (pc' := 166) (L' := [.ref l0, .int l1, .int l2, .int l3, .int l4, .int l5, .int ((q10.1 &&& (((1 : Int32) <<< (l4 &&& 31)) ^^^ ((-1)))) ||| ((1 : Int32) <<< (l5 &&& 31))), .int ((q12.1 &&& (((1 : Int32) <<< (l5 &&& 31)) ^^^ ((-1)))) ||| ((1 : Int32) <<< (l4 &&& 31)))]) (S' := [.int l3]) rfl ?_
              by_cases c19 : l3 = 0
              · rw [if_pos c19] at H
                refine ev_bt hc_X12_exchange (fe_X12_exchange (pc := 166) rfl) rfl c19 ?_
                refine ev_go hc_X12_exchange (k := 3) (pc' := 173) (L' := [.ref l0, .int l1, .int l2, .int l3, .int l4, .int l5, .int ((q10.1 &&& (((1 : Int32) <<< (l4 &&& 31)) ^^^ ((-1)))) ||| ((1 : Int32) <<< (l5 &&& 31))), .int ((q12.1 &&& (((1 : Int32) <<< (l5 &&& 31)) ^^^ ((-1)))) ||| ((1 : Int32) <<< (l4 &&& 31)))]) (S' := [.long ((l4 : Int32).toInt64), .ref l0]) rfl ?_
                obtain ⟨h20, eh20, H⟩ := Option.bind_eq_some_iff.mp H
                refine ev_call (vs := [.ref l0, .long ((l4 : Int32).toInt64)]) (rest := []) (q := q_X12_tell) hc_X12_exchange (Or.inr rfl) (fe_X12_exchange (pc := 173) rfl) ms_173 rfl rfl (Nat.le_of_ble_eq_true rfl) (kO_recv (K_X12_tell eh20)) (E_X12_tell eh20 (by omega)) rfl ?_
                show Ev xs N (d + 1) 252 176 [.ref l0, .int l1, .int l2, .int l3, .int l4, .int l5, .int ((q10.1 &&& (((1 : Int32) <<< (l4 &&& 31)) ^^^ ((-1)))) ||| ((1 : Int32) <<< (l5 &&& 31))), .int ((q12.1 &&& (((1 : Int32) <<< (l5 &&& 31)) ^^^ ((-1)))) ||| ((1 : Int32) <<< (l4 &&& 31)))] [] h20 nx _
                refine ev_go hc_X12_exchange (k := 3) (pc' := 180) (L' := [.ref l0, .int l1, .int l2, .int l3, .int l4, .int l5, .int ((q10.1 &&& (((1 : Int32) <<< (l4 &&& 31)) ^^^ ((-1)))) ||| ((1 : Int32) <<< (l5 &&& 31))), .int ((q12.1 &&& (((1 : Int32) <<< (l5 &&& 31)) ^^^ ((-1)))) ||| ((1 : Int32) <<< (l4 &&& 31)))]) (S' := [.long ((l5 : Int32).toInt64), .ref l0]) rfl ?_
                obtain ⟨h21, eh21, H⟩ := Option.bind_eq_some_iff.mp H
                refine ev_call (vs := [.ref l0, .long ((l5 : Int32).toInt64)]) (rest := []) (q := q_X12_tell) hc_X12_exchange (Or.inr rfl) (fe_X12_exchange (pc := 180) rfl) ms_173 rfl rfl (Nat.le_of_ble_eq_true rfl) (kO_recv (K_X12_tell eh21)) (E_X12_tell eh21 (by omega)) rfl ?_
                show Ev xs N (d + 1) 252 183 [.ref l0, .int l1, .int l2, .int l3, .int l4, .int l5, .int ((q10.1 &&& (((1 : Int32) <<< (l4 &&& 31)) ^^^ ((-1)))) ||| ((1 : Int32) <<< (l5 &&& 31))), .int ((q12.1 &&& (((1 : Int32) <<< (l5 &&& 31)) ^^^ ((-1)))) ||| ((1 : Int32) <<< (l4 &&& 31)))] [] h21 nx _
                exact Ev.weak (ci_le_c (Or.inr rfl) (ci_le_c (Or.inr rfl) (ci_le_c (Or.inr rfl) (ci_le_c (Or.inr rfl) (ci_le_c (Or.inr rfl) (ci_le_c (Or.inr rfl) (ci_le_c (Or.inl rfl) (ci_le_c (Or.inl rfl) (ci_le_n))))))))) (eb_X12_exchange_183 hd h_38 ih H)
              · rw [if_neg c19] at H
                refine ev_bf hc_X12_exchange (fe_X12_exchange (pc := 166) rfl) rfl c19 ?_
                exact Ev.weak (ci_le_c (Or.inr rfl) (ci_le_c (Or.inr rfl) (ci_le_c (Or.inr rfl) (ci_le_c (Or.inr rfl) (ci_le_c (Or.inr rfl) (ci_le_c (Or.inr rfl) (ci_le_c (Or.inl rfl) (ci_le_c (Or.inl rfl) (ci_le_n))))))))) (eb_X12_exchange_183 hd h_38 ih H)
            · rw [if_neg c18] at H
              refine ev_bf hc_X12_exchange (fe_X12_exchange (pc := 159) rfl) rfl c18 ?_
              refine ev_go hc_X12_exchange (k := 1) (pc' := 186) (L' := [.ref l0, .int l1, .int l2, .int l3, .int l4, .int l5, .int ((q10.1 &&& (((1 : Int32) <<< (l4 &&& 31)) ^^^ ((-1)))) ||| ((1 : Int32) <<< (l5 &&& 31))), .int ((q12.1 &&& (((1 : Int32) <<< (l5 &&& 31)) ^^^ ((-1)))) ||| ((1 : Int32) <<< (l4 &&& 31)))]) (S' := []) rfl ?_
              exact Ev.weak (ci_le_c (Or.inr rfl) (ci_le_c (Or.inr rfl) (ci_le_c (Or.inr rfl) (ci_le_c (Or.inr rfl) (ci_le_c (Or.inr rfl) (ci_le_c (Or.inr rfl) (ci_le_c (Or.inl rfl) (ci_le_c (Or.inl rfl) (ci_le_n))))))))) (eb_X12_exchange_186 hd h_38 ih H)
          · rw [if_neg c15] at H
            refine ev_bf hc_X12_exchange (fe_X12_exchange (pc := 146) rfl) rfl c15 ?_
            exact Ev.weak (ci_le_c (Or.inr rfl) (ci_le_c (Or.inr rfl) (ci_le_c (Or.inr rfl) (ci_le_c (Or.inr rfl) (ci_le_c (Or.inr rfl) (ci_le_c (Or.inr rfl) (ci_le_c (Or.inl rfl) (ci_le_c (Or.inl rfl) (ci_le_n))))))))) (eb_X12_exchange_186 hd h_38 ih H)
        · rw [if_neg c8] at H
          refine ev_bf hc_X12_exchange (fe_X12_exchange (pc := 84) rfl) rfl c8 ?_
          refine ev_go hc_X12_exchange (k := 1) (pc' := 186) (L' := [.ref l0, .int l1, .int l2, .int l3, .int l4, .int l5, ci_junk, ci_junk]) (S' := []) rfl ?_
          exact Ev.weak (ci_le_c (Or.inr rfl) (ci_le_c (Or.inr rfl) (ci_le_c (Or.inr rfl) (ci_le_c (Or.inr rfl) (ci_le_c (Or.inr rfl) (ci_le_c (Or.inr rfl) (ci_le_c (Or.inl rfl) (ci_le_c (Or.inl rfl) (ci_le_n))))))))) (eb_X12_exchange_186 hd h_38 ih H)
      · rw [if_neg c5] at H
        refine ev_bf hc_X12_exchange (fe_X12_exchange (pc := 70) rfl) rfl c5 ?_
        exact Ev.weak (ci_le_c (Or.inr rfl) (ci_le_c (Or.inr rfl) (ci_le_c (Or.inr rfl) (ci_le_c (Or.inr rfl) (ci_le_c (Or.inr rfl) (ci_le_c (Or.inr rfl) (ci_le_c (Or.inl rfl) (ci_le_c (Or.inl rfl) (ci_le_n))))))))) (eb_X12_exchange_186 hd h_38 ih H)
def b_X12_exchange_38 (l0 : Nat) (l1 : Int32) (l2 : Int32) : Nat → Int32 → Int32 → ci_H → Option (Int32 × ci_H)
  | 0, _, _, _ => none
  | n + 1, l3, l4, h => (gI h l0 12 2).bind fun v1 => if v1 ≤ l4 then (some (l3, h)) else (b_X12_exchange_50 (fun x0 x1 x2 => b_X12_exchange_38 l0 l1 l2 n x0 x1 x2) l0 l1 l2 l4 bigN l3 0 h)
set_option maxHeartbeats 4000000 in
set_option maxRecDepth 20000 in
theorem eb_X12_exchange_38 {xs : Nat → Int32} {N d : Nat} {nx : ci_N} {l0 : Nat} {l1 : Int32} {l2 : Int32} (hd : 2 ≤ d) : ∀ (n : Nat) (l3 : Int32) (l4 : Int32) (h : ci_H) (r : Int32 × ci_H), b_X12_exchange_38 l0 l1 l2 n l3 l4 h = some r → Ev xs N (d + 1) 252 38 [.ref l0, .int l1, .int l2, .int l3, .int l4, ci_junk, ci_junk, ci_junk] [] h nx (oI r nx) := by
  intro n
  induction n with
  | zero => intro l3 l4 h r H; unfold b_X12_exchange_38 at H; cases H
  | succ n ih =>
    intro l3 l4 h r H
    unfold b_X12_exchange_38 at H
    refine ev_go hc_X12_exchange (k := 2) (pc' := 41) (L' := [.ref l0, .int l1, .int l2, .int l3, .int l4, ci_junk, ci_junk, ci_junk]) (S' := [.ref l0, .int l4]) rfl ?_
    obtain ⟨v1, ev1, H⟩ := Option.bind_eq_some_iff.mp H
    refine ev_4 hc_X12_exchange (fe_X12_exchange (pc := 41) rfl) (gI_gf ev1) ?_
    by_cases c2 : v1 ≤ l4
    · rw [if_pos c2] at H
      refine ev_bt hc_X12_exchange (fe_X12_exchange (pc := 44) rfl) rfl c2 ?_
      refine ev_go hc_X12_exchange (k := 1) (pc' := 199) (L' := [.ref l0, .int l1, .int l2, .int l3, .int l4, ci_junk, ci_junk, ci_junk]) (S' := [.int l3]) rfl ?_
      obtain rfl := Option.some.inj H
      exact ev_8 hc_X12_exchange (fe_X12_exchange (pc := 199) rfl) rfl
    · rw [if_neg c2] at H
      refine ev_bf hc_X12_exchange (fe_X12_exchange (pc := 44) rfl) rfl c2 ?_
      refine ev_go hc_X12_exchange (k := 2) (pc' := 50) (L' := [.ref l0, .int l1, .int l2, .int l3, .int l4, .int 0, ci_junk, ci_junk]) (S' := []) rfl ?_
      exact Ev.weak (ci_le_c (Or.inr rfl) (ci_le_c (Or.inr rfl) (ci_le_c (Or.inr rfl) (ci_le_c (Or.inr rfl) (ci_le_c (Or.inr rfl) (ci_le_c (Or.inr rfl) (ci_le_c (Or.inl rfl) (ci_le_c (Or.inl rfl) (ci_le_n))))))))) (eb_X12_exchange_50 hd ih bigN _ _ _ _ H)
def F_X12_exchange (a0 : Nat) (a1 : Int32) (a2 : Int32) (h : ci_H) : Option (Int32 × ci_H) := if kO h a0 = some 12 then ((pF h a0 12 11 (.int 0)).bind fun h1 => (F_X12_isHouse a0 a1 h1).bind fun q2 => if q2.1 = 0 then (some ((-1), q2.2)) else ((F_X12_isHouse a0 a2 q2.2).bind fun q4 => if q4.1 = 0 then (some ((-1), q4.2)) else (if a1 = a2 then (some ((-1), q4.2)) else ((pF q4.2 a0 12 10 (.int 0)).bind fun h7 => b_X12_exchange_38 a0 a1 a2 bigN 0 0 h7)))) else none
theorem K_X12_exchange {a0 : Nat} {a1 : Int32} {a2 : Int32} {h : ci_H} {r : Int32 × ci_H} (H : F_X12_exchange a0 a1 a2 h = some r) : kO h a0 = some 12 := by
  unfold F_X12_exchange at H
  by_cases c : kO h a0 = some 12
  · exact c
  · rw [if_neg c] at H; cases H
set_option maxHeartbeats 4000000 in
set_option maxRecDepth 20000 in
theorem E_X12_exchange {xs : Nat → Int32} {N d : Nat} {nx : ci_N} {a0 : Nat} {a1 : Int32} {a2 : Int32} {h : ci_H} {r : Int32 × ci_H} (H : F_X12_exchange a0 a1 a2 h = some r) (hd : 3 ≤ d) : Ev xs N d 252 0 (ci_entry [.ref a0, .int a1, .int a2] 8) [] h nx (oI r nx) := by
  obtain ⟨d, rfl⟩ : ∃ d2, d = d2 + 1 := ⟨d - 1, by omega⟩
  have hd : 2 ≤ d := by omega
  unfold F_X12_exchange at H
  by_cases ck : kO h a0 = some 12
  · rw [if_pos ck] at H
    show Ev xs N (d + 1) 252 0 [.ref a0, .int a1, .int a2, ci_junk, ci_junk, ci_junk, ci_junk, ci_junk] [] h nx _
    refine ev_go hc_X12_exchange (k := 2) (pc' := 2) (L' := [.ref a0, .int a1, .int a2, ci_junk, ci_junk, ci_junk, ci_junk, ci_junk]) (S' := [.int 0, .ref a0]) rfl ?_
    obtain ⟨h1, eh1, H⟩ := Option.bind_eq_some_iff.mp H
    refine ev_5 hc_X12_exchange (fe_X12_exchange (pc := 2) rfl) (pF_pf eh1) ?_
    refine ev_go hc_X12_exchange (k := 2) (pc' := 7) (L' := [.ref a0, .int a1, .int a2, ci_junk, ci_junk, ci_junk, ci_junk, ci_junk]) (S' := [.int a1, .ref a0]) rfl ?_
    obtain ⟨q2, eq2, H⟩ := Option.bind_eq_some_iff.mp H
    refine ev_call (vs := [.ref a0, .int a1]) (rest := []) (q := q_X12_isHouse) hc_X12_exchange (Or.inr rfl) (fe_X12_exchange (pc := 7) rfl) ms_175 rfl rfl (Nat.le_of_ble_eq_true rfl) (kO_recv (K_X12_isHouse eq2)) (E_X12_isHouse eq2 (by omega)) rfl ?_
    show Ev xs N (d + 1) 252 10 [.ref a0, .int a1, .int a2, ci_junk, ci_junk, ci_junk, ci_junk, ci_junk] [.int q2.1] q2.2 nx _
    by_cases c3 : q2.1 = 0
    · rw [if_pos c3] at H
      refine ev_bt hc_X12_exchange (fe_X12_exchange (pc := 10) rfl) rfl c3 ?_
      refine ev_go hc_X12_exchange (k := 1) (pc' := 27) (L' := [.ref a0, .int a1, .int a2, ci_junk, ci_junk, ci_junk, ci_junk, ci_junk]) (S' := [.int ((-1))]) rfl ?_
      obtain rfl := Option.some.inj H
      exact ev_8 hc_X12_exchange (fe_X12_exchange (pc := 27) rfl) rfl
    · rw [if_neg c3] at H
      refine ev_bf hc_X12_exchange (fe_X12_exchange (pc := 10) rfl) rfl c3 ?_
      refine ev_go hc_X12_exchange (k := 2) (pc' := 15) (L' := [.ref a0, .int a1, .int a2, ci_junk, ci_junk, ci_junk, ci_junk, ci_junk]) (S' := [.int a2, .ref a0]) rfl ?_
      obtain ⟨q4, eq4, H⟩ := Option.bind_eq_some_iff.mp H
      refine ev_call (vs := [.ref a0, .int a2]) (rest := []) (q := q_X12_isHouse) hc_X12_exchange (Or.inr rfl) (fe_X12_exchange (pc := 15) rfl) ms_175 rfl rfl (Nat.le_of_ble_eq_true rfl) (kO_recv (K_X12_isHouse eq4)) (E_X12_isHouse eq4 (by omega)) rfl ?_
      show Ev xs N (d + 1) 252 18 [.ref a0, .int a1, .int a2, ci_junk, ci_junk, ci_junk, ci_junk, ci_junk] [.int q4.1] q4.2 nx _
      by_cases c5 : q4.1 = 0
      · rw [if_pos c5] at H
        refine ev_bt hc_X12_exchange (fe_X12_exchange (pc := 18) rfl) rfl c5 ?_
        refine ev_go hc_X12_exchange (k := 1) (pc' := 27) (L' := [.ref a0, .int a1, .int a2, ci_junk, ci_junk, ci_junk, ci_junk, ci_junk]) (S' := [.int ((-1))]) rfl ?_
        obtain rfl := Option.some.inj H
        exact ev_8 hc_X12_exchange (fe_X12_exchange (pc := 27) rfl) rfl
      · rw [if_neg c5] at H
        refine ev_bf hc_X12_exchange (fe_X12_exchange (pc := 18) rfl) rfl c5 ?_
        refine ev_go hc_X12_exchange (k := 2) (pc' := 23) (L' := [.ref a0, .int a1, .int a2, ci_junk, ci_junk, ci_junk, ci_junk, ci_junk]) (S' := [.int a2, .int a1]) rfl ?_
        by_cases c6 : a1 = a2
        · rw [if_pos c6] at H
          refine ev_bt hc_X12_exchange (fe_X12_exchange (pc := 23) rfl) rfl c6 ?_
          refine ev_go hc_X12_exchange (k := 1) (pc' := 27) (L' := [.ref a0, .int a1, .int a2, ci_junk, ci_junk, ci_junk, ci_junk, ci_junk]) (S' := [.int ((-1))]) rfl ?_
          obtain rfl := Option.some.inj H
          exact ev_8 hc_X12_exchange (fe_X12_exchange (pc := 27) rfl) rfl
        · rw [if_neg c6] at H
          refine ev_bf hc_X12_exchange (fe_X12_exchange (pc := 23) rfl) rfl c6 ?_
          refine ev_go hc_X12_exchange (k := 4) (pc' := 32) (L' := [.ref a0, .int a1, .int a2, .int 0, ci_junk, ci_junk, ci_junk, ci_junk]) (S' := [.int 0, .ref a0]) rfl ?_
          obtain ⟨h7, eh7, H⟩ := Option.bind_eq_some_iff.mp H
          refine ev_5 hc_X12_exchange (fe_X12_exchange (pc := 32) rfl) (pF_pf eh7) ?_
          refine ev_go hc_X12_exchange (k := 2) (pc' := 38) (L' := [.ref a0, .int a1, .int a2, .int 0, .int 0, ci_junk, ci_junk, ci_junk]) (S' := []) rfl ?_
          exact Ev.weak (ci_le_c (Or.inr rfl) (ci_le_c (Or.inr rfl) (ci_le_c (Or.inr rfl) (ci_le_c (Or.inr rfl) (ci_le_c (Or.inr rfl) (ci_le_c (Or.inl rfl) (ci_le_c (Or.inl rfl) (ci_le_c (Or.inl rfl) (ci_le_n))))))))) (eb_X12_exchange_38 hd bigN _ _ _ _ H)
  · rw [if_neg ck] at H; cases H
theorem hc_X12_withAll : ci_code (ci_Ms 253) = k_X12_withAll := rfl
theorem fe_X12_withAll {pc : Nat} {w : Option ci_I} (h : (k_X12_withAll)[pc]? = some w) : (k_X12_withAll)[pc]? = some w := h
def b_X12_withAll_48 (r_5 : Int32 → Int32 → ci_H → Option (Int32 × ci_H)) (l0 : Nat) (l1 : Int32) (l2 : Int32) (l4 : Int32) (s0 : Int32) (s1 : Int32)  (h : ci_H) : Option (Int32 × ci_H) := r_5 (s0 ||| s1) (l4 + 1) h
set_option maxHeartbeats 4000000 in
set_option maxRecDepth 20000 in
theorem eb_X12_withAll_48 {xs : Nat → Int32} {N d : Nat} {nx : ci_N} {r_5 : Int32 → Int32 → ci_H → Option (Int32 × ci_H)} {l0 : Nat} {l1 : Int32} {l2 : Int32} {l4 : Int32} {s0 : Int32} {s1 : Int32} (hd : 0 ≤ d) (h_5 : ∀ (l3 : Int32) (l4 : Int32) (h : ci_H) (r : Int32 × ci_H), r_5 l3 l4 h = some r → Ev xs N (d + 1) 253 5 [.ref l0, .int l1, .int l2, .int l3, .int l4] [] h nx (oI r nx)) {h : ci_H} {r : Int32 × ci_H} (H : b_X12_withAll_48 r_5 l0 l1 l2 l4 s0 s1 h = some r) : Ev xs N (d + 1) 253 48 [.ref l0, .int l1, .int l2, ci_junk, .int l4] [.int s1, .int s0] h nx (oI r nx) := by
  unfold b_X12_withAll_48 at H
  refine ev_go hc_X12_withAll (k := 4) (pc' := 5) (L' := [.ref l0, .int l1, .int l2, .int (s0 ||| s1), .int (l4 + 1)]) (S' := []) rfl ?_
  exact Ev.weak (ci_le_c (Or.inr rfl) (ci_le_c (Or.inr rfl) (ci_le_c (Or.inr rfl) (ci_le_c (Or.inr rfl) (ci_le_c (Or.inr rfl) (ci_le_n)))))) (h_5 _ _ _ _ H)
def b_X12_withAll_47 (r_5 : Int32 → Int32 → ci_H → Option (Int32 × ci_H)) (l0 : Nat) (l1 : Int32) (l2 : Int32) (l4 : Int32) (s0 : Int32)  (h : ci_H) : Option (Int32 × ci_H) := b_X12_withAll_48 r_5 l0 l1 l2 l4 s0 0 h
set_option maxHeartbeats 4000000 in
set_option maxRecDepth 20000 in
theorem eb_X12_withAll_47 {xs : Nat → Int32} {N d : Nat} {nx : ci_N} {r_5 : Int32 → Int32 → ci_H → Option (Int32 × ci_H)} {l0 : Nat} {l1 : Int32} {l2 : Int32} {l4 : Int32} {s0 : Int32} (hd : 0 ≤ d) (h_5 : ∀ (l3 : Int32) (l4 : Int32) (h : ci_H) (r : Int32 × ci_H), r_5 l3 l4 h = some r → Ev xs N (d + 1) 253 5 [.ref l0, .int l1, .int l2, .int l3, .int l4] [] h nx (oI r nx)) {h : ci_H} {r : Int32 × ci_H} (H : b_X12_withAll_47 r_5 l0 l1 l2 l4 s0 h = some r) : Ev xs N (d + 1) 253 47 [.ref l0, .int l1, .int l2, ci_junk, .int l4] [.int s0] h nx (oI r nx) := by
  unfold b_X12_withAll_47 at H
  refine ev_go hc_X12_withAll (k := 1) (pc' := 48) (L' := [.ref l0, .int l1, .int l2, ci_junk, .int l4]) (S' := [.int 0, .int s0]) rfl ?_
  exact Ev.weak (ci_le_c (Or.inr rfl) (ci_le_c (Or.inr rfl) (ci_le_c (Or.inr rfl) (ci_le_c (Or.inl rfl) (ci_le_c (Or.inr rfl) (ci_le_n)))))) (eb_X12_withAll_48 hd h_5 H)
def b_X12_withAll_5 (l0 : Nat) (l1 : Int32) (l2 : Int32) : Nat → Int32 → Int32 → ci_H → Option (Int32 × ci_H)
  | 0, _, _, _ => none
  | n + 1, l3, l4, h => (gI h l0 12 2).bind fun v1 => if v1 ≤ l4 then (some (l3, h)) else ((F_X12_has l1 l4 h).bind fun q3 => if q3.1 = 0 then (b_X12_withAll_47 (fun x0 x1 x2 => b_X12_withAll_5 l0 l1 l2 n x0 x1 x2) l0 l1 l2 l4 l3 q3.2) else ((gR q3.2 l0 12 0).bind fun v5 => (rI q3.2 v5 l4).bind fun v6 => (F_X12_isOf l0 v6 l2 0 q3.2).bind fun q7 => if q7.1 = 0 then (b_X12_withAll_47 (fun x0 x1 x2 => b_X12_withAll_5 l0 l1 l2 n x0 x1 x2) l0 l1 l2 l4 l3 q7.2) else (b_X12_withAll_48 (fun x0 x1 x2 => b_X12_withAll_5 l0 l1 l2 n x0 x1 x2) l0 l1 l2 l4 l3 ((1 : Int32) <<< (l4 &&& 31)) q7.2)))
set_option maxHeartbeats 4000000 in
set_option maxRecDepth 20000 in
theorem eb_X12_withAll_5 {xs : Nat → Int32} {N d : Nat} {nx : ci_N} {l0 : Nat} {l1 : Int32} {l2 : Int32} (hd : 0 ≤ d) : ∀ (n : Nat) (l3 : Int32) (l4 : Int32) (h : ci_H) (r : Int32 × ci_H), b_X12_withAll_5 l0 l1 l2 n l3 l4 h = some r → Ev xs N (d + 1) 253 5 [.ref l0, .int l1, .int l2, .int l3, .int l4] [] h nx (oI r nx) := by
  intro n
  induction n with
  | zero => intro l3 l4 h r H; unfold b_X12_withAll_5 at H; cases H
  | succ n ih =>
    intro l3 l4 h r H
    unfold b_X12_withAll_5 at H
    refine ev_go hc_X12_withAll (k := 2) (pc' := 8) (L' := [.ref l0, .int l1, .int l2, .int l3, .int l4]) (S' := [.ref l0, .int l4]) rfl ?_
    obtain ⟨v1, ev1, H⟩ := Option.bind_eq_some_iff.mp H
    refine ev_4 hc_X12_withAll (fe_X12_withAll (pc := 8) rfl) (gI_gf ev1) ?_
    by_cases c2 : v1 ≤ l4
    · rw [if_pos c2] at H
      refine ev_bt hc_X12_withAll (fe_X12_withAll (pc := 11) rfl) rfl c2 ?_
      refine ev_go hc_X12_withAll (k := 1) (pc' := 57) (L' := [.ref l0, .int l1, .int l2, .int l3, .int l4]) (S' := [.int l3]) rfl ?_
      obtain rfl := Option.some.inj H
      exact ev_8 hc_X12_withAll (fe_X12_withAll (pc := 57) rfl) rfl
    · rw [if_neg c2] at H
      refine ev_bf hc_X12_withAll (fe_X12_withAll (pc := 11) rfl) rfl c2 ?_
      refine ev_go hc_X12_withAll (k := 3) (pc' := 18) (L' := [.ref l0, .int l1, .int l2, .int l3, .int l4]) (S' := [.int l4, .int l1, .int l3]) rfl ?_
      obtain ⟨q3, eq3, H⟩ := Option.bind_eq_some_iff.mp H
      refine ev_call (vs := [.int l1, .int l4]) (rest := [.int l3]) (q := q_X12_has) hc_X12_withAll (Or.inl rfl) (fe_X12_withAll (pc := 18) rfl) ms_171 rfl rfl (Nat.le_of_ble_eq_true rfl) rfl (E_X12_has eq3 (by omega)) rfl ?_
      show Ev xs N (d + 1) 253 21 [.ref l0, .int l1, .int l2, .int l3, .int l4] [.int q3.1, .int l3] q3.2 nx _
      by_cases c4 : q3.1 = 0
      · rw [if_pos c4] at H
        refine ev_bt hc_X12_withAll (fe_X12_withAll (pc := 21) rfl) rfl c4 ?_
        exact Ev.weak (ci_le_c (Or.inr rfl) (ci_le_c (Or.inr rfl) (ci_le_c (Or.inr rfl) (ci_le_c (Or.inl rfl) (ci_le_c (Or.inr rfl) (ci_le_n)))))) (eb_X12_withAll_47 hd ih H)
      · rw [if_neg c4] at H
        refine ev_bf hc_X12_withAll (fe_X12_withAll (pc := 21) rfl) rfl c4 ?_
        refine ev_go hc_X12_withAll (k := 2) (pc' := 26) (L' := [.ref l0, .int l1, .int l2, .int l3, .int l4]) (S' := [.ref l0, .ref l0, .int l3]) rfl ?_
        obtain ⟨v5, ev5, H⟩ := Option.bind_eq_some_iff.mp H
        refine ev_4 hc_X12_withAll (fe_X12_withAll (pc := 26) rfl) (gR_gf ev5) ?_
        refine ev_go hc_X12_withAll (k := 1) (pc' := 31) (L' := [.ref l0, .int l1, .int l2, .int l3, .int l4]) (S' := [.int l4, .ref v5, .ref l0, .int l3]) rfl ?_
        obtain ⟨v6, ev6, H⟩ := Option.bind_eq_some_iff.mp H
        refine ev_4 hc_X12_withAll (fe_X12_withAll (pc := 31) rfl) (rI_al ev6) ?_
        refine ev_go hc_X12_withAll (k := 2) (pc' := 34) (L' := [.ref l0, .int l1, .int l2, .int l3, .int l4]) (S' := [.int 0, .int l2, .int v6, .ref l0, .int l3]) rfl ?_
        obtain ⟨q7, eq7, H⟩ := Option.bind_eq_some_iff.mp H
        refine ev_call (vs := [.ref l0, .int v6, .int l2, .int 0]) (rest := [.int l3]) (q := q_X12_isOf) hc_X12_withAll (Or.inr rfl) (fe_X12_withAll (pc := 34) rfl) ms_200 rfl rfl (Nat.le_of_ble_eq_true rfl) (kO_recv (K_X12_isOf eq7)) (E_X12_isOf eq7 (by omega)) rfl ?_
        show Ev xs N (d + 1) 253 37 [.ref l0, .int l1, .int l2, .int l3, .int l4] [.int q7.1, .int l3] q7.2 nx _
        by_cases c8 : q7.1 = 0
        · rw [if_pos c8] at H
          refine ev_bt hc_X12_withAll (fe_X12_withAll (pc := 37) rfl) rfl c8 ?_
          exact Ev.weak (ci_le_c (Or.inr rfl) (ci_le_c (Or.inr rfl) (ci_le_c (Or.inr rfl) (ci_le_c (Or.inl rfl) (ci_le_c (Or.inr rfl) (ci_le_n)))))) (eb_X12_withAll_47 hd ih H)
        · rw [if_neg c8] at H
          refine ev_bf hc_X12_withAll (fe_X12_withAll (pc := 37) rfl) rfl c8 ?_
          refine ev_go hc_X12_withAll (k := 4) (pc' := 48) (L' := [.ref l0, .int l1, .int l2, .int l3, .int l4]) (S' := [.int ((1 : Int32) <<< (l4 &&& 31)), .int l3]) rfl ?_
          exact Ev.weak (ci_le_c (Or.inr rfl) (ci_le_c (Or.inr rfl) (ci_le_c (Or.inr rfl) (ci_le_c (Or.inl rfl) (ci_le_c (Or.inr rfl) (ci_le_n)))))) (eb_X12_withAll_48 hd ih H)
def F_X12_withAll (a0 : Nat) (a1 : Int32) (a2 : Int32) (h : ci_H) : Option (Int32 × ci_H) := if kO h a0 = some 12 then (b_X12_withAll_5 a0 a1 a2 bigN 0 0 h) else none
theorem K_X12_withAll {a0 : Nat} {a1 : Int32} {a2 : Int32} {h : ci_H} {r : Int32 × ci_H} (H : F_X12_withAll a0 a1 a2 h = some r) : kO h a0 = some 12 := by
  unfold F_X12_withAll at H
  by_cases c : kO h a0 = some 12
  · exact c
  · rw [if_neg c] at H; cases H
set_option maxHeartbeats 4000000 in
set_option maxRecDepth 20000 in
theorem E_X12_withAll {xs : Nat → Int32} {N d : Nat} {nx : ci_N} {a0 : Nat} {a1 : Int32} {a2 : Int32} {h : ci_H} {r : Int32 × ci_H} (H : F_X12_withAll a0 a1 a2 h = some r) (hd : 1 ≤ d) : Ev xs N d 253 0 (ci_entry [.ref a0, .int a1, .int a2] 5) [] h nx (oI r nx) := by
  obtain ⟨d, rfl⟩ : ∃ d2, d = d2 + 1 := ⟨d - 1, by omega⟩
  have hd : 0 ≤ d := by omega
  unfold F_X12_withAll at H
  by_cases ck : kO h a0 = some 12
  · rw [if_pos ck] at H
    show Ev xs N (d + 1) 253 0 [.ref a0, .int a1, .int a2, ci_junk, ci_junk] [] h nx _
    refine ev_go hc_X12_withAll (k := 4) (pc' := 5) (L' := [.ref a0, .int a1, .int a2, .int 0, .int 0]) (S' := []) rfl ?_
    exact Ev.weak (ci_le_c (Or.inr rfl) (ci_le_c (Or.inr rfl) (ci_le_c (Or.inr rfl) (ci_le_c (Or.inr rfl) (ci_le_c (Or.inr rfl) (ci_le_n)))))) (eb_X12_withAll_5 hd bigN _ _ _ _ H)
  · rw [if_neg ck] at H; cases H
theorem hc_X12_isFewer : ci_code (ci_Ms 254) = k_X12_isFewer := rfl
theorem fe_X12_isFewer {pc : Nat} {w : Option ci_I} (h : (k_X12_isFewer)[pc]? = some w) : (k_X12_isFewer)[pc]? = some w := h
def b_X12_isFewer_16  (h : ci_H) : Option (Int32 × ci_H) := some (1, h)
set_option maxHeartbeats 4000000 in
set_option maxRecDepth 20000 in
theorem eb_X12_isFewer_16 {xs : Nat → Int32} {N d : Nat} {nx : ci_N} (hd : 0 ≤ d) {h : ci_H} {r : Int32 × ci_H} (H : b_X12_isFewer_16 h = some r) : Ev xs N (d + 1) 254 16 [ci_junk, ci_junk] [] h nx (oI r nx) := by
  unfold b_X12_isFewer_16 at H
  refine ev_go hc_X12_isFewer (k := 2) (pc' := 21) (L' := [ci_junk, ci_junk]) (S' := [.int 1]) rfl ?_
  obtain rfl := Option.some.inj H
  exact ev_8z hc_X12_isFewer (fe_X12_isFewer (pc := 21) rfl) rfl (Or.inr rfl)
def F_X12_isFewer (a0 : Int32) (a1 : Int32) (h : ci_H) : Option (Int32 × ci_H) := if a1 = ((-1)) then (b_X12_isFewer_16 h) else ((F_J6_bitCount_0f7a4 a0 h).bind fun q2 => (F_J6_bitCount_0f7a4 a1 q2.2).bind fun q3 => if q3.1 ≤ q2.1 then (some (0, q3.2)) else (b_X12_isFewer_16 q3.2))
set_option maxHeartbeats 4000000 in
set_option maxRecDepth 20000 in
theorem E_X12_isFewer {xs : Nat → Int32} {N d : Nat} {nx : ci_N} {a0 : Int32} {a1 : Int32} {h : ci_H} {r : Int32 × ci_H} (H : F_X12_isFewer a0 a1 h = some r) (hd : 1 ≤ d) : Ev xs N d 254 0 (ci_entry [.int a0, .int a1] 2) [] h nx (oI r nx) := by
  obtain ⟨d, rfl⟩ : ∃ d2, d = d2 + 1 := ⟨d - 1, by omega⟩
  have hd : 0 ≤ d := by omega
  unfold F_X12_isFewer at H
  show Ev xs N (d + 1) 254 0 [.int a0, .int a1] [] h nx _
  refine ev_go hc_X12_isFewer (k := 2) (pc' := 2) (L' := [.int a0, .int a1]) (S' := [.int ((-1)), .int a1]) rfl ?_
  by_cases c1 : a1 = ((-1))
  · rw [if_pos c1] at H
    refine ev_bt hc_X12_isFewer (fe_X12_isFewer (pc := 2) rfl) rfl c1 ?_
    exact Ev.weak (ci_le_c (Or.inl rfl) (ci_le_c (Or.inl rfl) (ci_le_n))) (eb_X12_isFewer_16 hd H)
  · rw [if_neg c1] at H
    refine ev_bf hc_X12_isFewer (fe_X12_isFewer (pc := 2) rfl) rfl c1 ?_
    refine ev_go hc_X12_isFewer (k := 1) (pc' := 6) (L' := [.int a0, .int a1]) (S' := [.int a0]) rfl ?_
    obtain ⟨q2, eq2, H⟩ := Option.bind_eq_some_iff.mp H
    refine ev_call (vs := [.int a0]) (rest := []) (q := q_J6_bitCount_0f7a4) hc_X12_isFewer (Or.inl rfl) (fe_X12_isFewer (pc := 6) rfl) ms_285 rfl rfl (Nat.le_of_ble_eq_true rfl) rfl (E_J6_bitCount_0f7a4 eq2 (by omega)) rfl ?_
    show Ev xs N (d + 1) 254 9 [.int a0, .int a1] [.int q2.1] q2.2 nx _
    refine ev_go hc_X12_isFewer (k := 1) (pc' := 10) (L' := [.int a0, .int a1]) (S' := [.int a1, .int q2.1]) rfl ?_
    obtain ⟨q3, eq3, H⟩ := Option.bind_eq_some_iff.mp H
    refine ev_call (vs := [.int a1]) (rest := [.int q2.1]) (q := q_J6_bitCount_0f7a4) hc_X12_isFewer (Or.inl rfl) (fe_X12_isFewer (pc := 10) rfl) ms_285 rfl rfl (Nat.le_of_ble_eq_true rfl) rfl (E_J6_bitCount_0f7a4 eq3 (by omega)) rfl ?_
    show Ev xs N (d + 1) 254 13 [.int a0, .int a1] [.int q3.1, .int q2.1] q3.2 nx _
    by_cases c4 : q3.1 ≤ q2.1
    · rw [if_pos c4] at H
      refine ev_bt hc_X12_isFewer (fe_X12_isFewer (pc := 13) rfl) rfl c4 ?_
      refine ev_go hc_X12_isFewer (k := 1) (pc' := 21) (L' := [.int a0, .int a1]) (S' := [.int 0]) rfl ?_
      obtain rfl := Option.some.inj H
      exact ev_8z hc_X12_isFewer (fe_X12_isFewer (pc := 21) rfl) rfl (Or.inl rfl)
    · rw [if_neg c4] at H
      refine ev_bf hc_X12_isFewer (fe_X12_isFewer (pc := 13) rfl) rfl c4 ?_
      exact Ev.weak (ci_le_c (Or.inl rfl) (ci_le_c (Or.inl rfl) (ci_le_n))) (eb_X12_isFewer_16 hd H)
theorem hc_X12_name : ci_code (ci_Ms 255) = k_X12_name := rfl
theorem fe_X12_name {pc : Nat} {w : Option ci_I} (h : (k_X12_name)[pc]? = some w) : (k_X12_name)[pc]? = some w := h
def b_X12_name_65 (r_22 : Int32 → Int32 → Int32 → ci_H → Option (Int32 × ci_H)) (l0 : Nat) (l1 : Int32) (l2 : Int32) (l3 : Int32) (l4 : Int32)  (h : ci_H) : Option (Int32 × ci_H) := r_22 l2 l3 (l4 + 1) h
set_option maxHeartbeats 4000000 in
set_option maxRecDepth 20000 in
theorem eb_X12_name_65 {xs : Nat → Int32} {N d : Nat} {nx : ci_N} {r_22 : Int32 → Int32 → Int32 → ci_H → Option (Int32 × ci_H)} {l0 : Nat} {l1 : Int32} {l2 : Int32} {l3 : Int32} {l4 : Int32} (hd : 1 ≤ d) (h_22 : ∀ (l2 : Int32) (l3 : Int32) (l4 : Int32) (h : ci_H) (r : Int32 × ci_H), r_22 l2 l3 l4 h = some r → Ev xs N (d + 1) 255 22 [.ref l0, .int l1, .int l2, .int l3, .int l4] [] h nx (oI r nx)) {h : ci_H} {r : Int32 × ci_H} (H : b_X12_name_65 r_22 l0 l1 l2 l3 l4 h = some r) : Ev xs N (d + 1) 255 65 [.ref l0, .int l1, .int l2, .int l3, .int l4] [] h nx (oI r nx) := by
  unfold b_X12_name_65 at H
  refine ev_go hc_X12_name (k := 2) (pc' := 22) (L' := [.ref l0, .int l1, .int l2, .int l3, .int (l4 + 1)]) (S' := []) rfl ?_
  exact Ev.weak (ci_le_c (Or.inr rfl) (ci_le_c (Or.inr rfl) (ci_le_c (Or.inr rfl) (ci_le_c (Or.inr rfl) (ci_le_c (Or.inr rfl) (ci_le_n)))))) (h_22 _ _ _ _ _ H)
def b_X12_name_22 (l0 : Nat) (l1 : Int32) : Nat → Int32 → Int32 → Int32 → ci_H → Option (Int32 × ci_H)
  | 0, _, _, _, _ => none
  | n + 1, l2, l3, l4, h => if 64 ≤ l4 then ((pF h l0 12 10 (.int 0)).bind fun h2 => (F_X12_tell l0 ((l3 : Int32).toInt64) h2).bind fun h3 => some (l2, h3)) else ((gI h l0 12 2).bind fun v4 => (F_X12_withAll l0 (((1 : Int32) <<< (v4 &&& 31)) - 1) l4 h).bind fun q5 => if q5.1 = l1 then ((F_X12_isFewer l4 l3 q5.2).bind fun q7 => if q7.1 = 0 then (b_X12_name_65 (fun x0 x1 x2 x3 => b_X12_name_22 l0 l1 n x0 x1 x2 x3) l0 l1 (l2 + 1) l3 l4 q7.2) else (b_X12_name_65 (fun x0 x1 x2 x3 => b_X12_name_22 l0 l1 n x0 x1 x2 x3) l0 l1 (l2 + 1) l4 l4 q7.2)) else (b_X12_name_65 (fun x0 x1 x2 x3 => b_X12_name_22 l0 l1 n x0 x1 x2 x3) l0 l1 l2 l3 l4 q5.2))
set_option maxHeartbeats 4000000 in
set_option maxRecDepth 20000 in
theorem eb_X12_name_22 {xs : Nat → Int32} {N d : Nat} {nx : ci_N} {l0 : Nat} {l1 : Int32} (hd : 1 ≤ d) : ∀ (n : Nat) (l2 : Int32) (l3 : Int32) (l4 : Int32) (h : ci_H) (r : Int32 × ci_H), b_X12_name_22 l0 l1 n l2 l3 l4 h = some r → Ev xs N (d + 1) 255 22 [.ref l0, .int l1, .int l2, .int l3, .int l4] [] h nx (oI r nx) := by
  intro n
  induction n with
  | zero => intro l2 l3 l4 h r H; unfold b_X12_name_22 at H; cases H
  | succ n ih =>
    intro l2 l3 l4 h r H
    unfold b_X12_name_22 at H
    refine ev_go hc_X12_name (k := 2) (pc' := 26) (L' := [.ref l0, .int l1, .int l2, .int l3, .int l4]) (S' := [.int 64, .int l4]) rfl ?_
    by_cases c1 : 64 ≤ l4
    · rw [if_pos c1] at H
      refine ev_bt hc_X12_name (fe_X12_name (pc := 26) rfl) rfl c1 ?_
      refine ev_go hc_X12_name (k := 2) (pc' := 73) (L' := [.ref l0, .int l1, .int l2, .int l3, .int l4]) (S' := [.int 0, .ref l0]) rfl ?_
      obtain ⟨h2, eh2, H⟩ := Option.bind_eq_some_iff.mp H
      refine ev_5 hc_X12_name (fe_X12_name (pc := 73) rfl) (pF_pf eh2) ?_
      refine ev_go hc_X12_name (k := 3) (pc' := 79) (L' := [.ref l0, .int l1, .int l2, .int l3, .int l4]) (S' := [.long ((l3 : Int32).toInt64), .ref l0]) rfl ?_
      obtain ⟨h3, eh3, H⟩ := Option.bind_eq_some_iff.mp H
      refine ev_call (vs := [.ref l0, .long ((l3 : Int32).toInt64)]) (rest := []) (q := q_X12_tell) hc_X12_name (Or.inr rfl) (fe_X12_name (pc := 79) rfl) ms_173 rfl rfl (Nat.le_of_ble_eq_true rfl) (kO_recv (K_X12_tell eh3)) (E_X12_tell eh3 (by omega)) rfl ?_
      show Ev xs N (d + 1) 255 82 [.ref l0, .int l1, .int l2, .int l3, .int l4] [] h3 nx _
      refine ev_go hc_X12_name (k := 1) (pc' := 83) (L' := [.ref l0, .int l1, .int l2, .int l3, .int l4]) (S' := [.int l2]) rfl ?_
      obtain rfl := Option.some.inj H
      exact ev_8 hc_X12_name (fe_X12_name (pc := 83) rfl) rfl
    · rw [if_neg c1] at H
      refine ev_bf hc_X12_name (fe_X12_name (pc := 26) rfl) rfl c1 ?_
      refine ev_go hc_X12_name (k := 3) (pc' := 32) (L' := [.ref l0, .int l1, .int l2, .int l3, .int l4]) (S' := [.ref l0, .int 1, .ref l0]) rfl ?_
      obtain ⟨v4, ev4, H⟩ := Option.bind_eq_some_iff.mp H
      refine ev_4 hc_X12_name (fe_X12_name (pc := 32) rfl) (gI_gf ev4) ?_
      refine ev_go hc_X12_name (k := 4) (pc' := 40) (L' := [.ref l0, .int l1, .int l2, .int l3, .int l4]) (S' := [.int l4, .int (((1 : Int32) <<< (v4 &&& 31)) - 1), .ref l0]) rfl ?_
      obtain ⟨q5, eq5, H⟩ := Option.bind_eq_some_iff.mp H
      refine ev_call (vs := [.ref l0, .int (((1 : Int32) <<< (v4 &&& 31)) - 1), .int l4]) (rest := []) (q := q_X12_withAll) hc_X12_name (Or.inr rfl) (fe_X12_name (pc := 40) rfl) ms_253 rfl rfl (Nat.le_of_ble_eq_true rfl) (kO_recv (K_X12_withAll eq5)) (E_X12_withAll eq5 (by omega)) rfl ?_
      show Ev xs N (d + 1) 255 43 [.ref l0, .int l1, .int l2, .int l3, .int l4] [.int q5.1] q5.2 nx _
      refine ev_go hc_X12_name (k := 1) (pc' := 44) (L' := [.ref l0, .int l1, .int l2, .int l3, .int l4]) (S' := [.int l1, .int q5.1]) rfl ?_
      by_cases c6 : q5.1 = l1
      · rw [if_pos c6] at H
        refine ev_bt hc_X12_name (fe_X12_name (pc := 44) rfl) rfl c6 ?_
        refine ev_go hc_X12_name (k := 3) (pc' := 56) (L' := [.ref l0, .int l1, .int (l2 + 1), .int l3, .int l4]) (S' := [.int l3, .int l4]) rfl ?_
        obtain ⟨q7, eq7, H⟩ := Option.bind_eq_some_iff.mp H
        refine ev_call (vs := [.int l4, .int l3]) (rest := []) (q := q_X12_isFewer) hc_X12_name (Or.inl rfl) (fe_X12_name (pc := 56) rfl) ms_254 rfl rfl (Nat.le_of_ble_eq_true rfl) rfl (E_X12_isFewer eq7 (by omega)) rfl ?_
        show Ev xs N (d + 1) 255 59 [.ref l0, .int l1, .int (l2 + 1), .int l3, .int l4] [.int q7.1] q7.2 nx _
        by_cases c8 : q7.1 = 0
        · rw [if_pos c8] at H
          refine ev_bt hc_X12_name (fe_X12_name (pc := 59) rfl) rfl c8 ?_
          exact Ev.weak (ci_le_c (Or.inr rfl) (ci_le_c (Or.inr rfl) (ci_le_c (Or.inr rfl) (ci_le_c (Or.inr rfl) (ci_le_c (Or.inr rfl) (ci_le_n)))))) (eb_X12_name_65 hd ih H)
        · rw [if_neg c8] at H
          refine ev_bf hc_X12_name (fe_X12_name (pc := 59) rfl) rfl c8 ?_
          refine ev_go hc_X12_name (k := 2) (pc' := 65) (L' := [.ref l0, .int l1, .int (l2 + 1), .int l4, .int l4]) (S' := []) rfl ?_
          exact Ev.weak (ci_le_c (Or.inr rfl) (ci_le_c (Or.inr rfl) (ci_le_c (Or.inr rfl) (ci_le_c (Or.inr rfl) (ci_le_c (Or.inr rfl) (ci_le_n)))))) (eb_X12_name_65 hd ih H)
      · rw [if_neg c6] at H
        refine ev_bf hc_X12_name (fe_X12_name (pc := 44) rfl) rfl c6 ?_
        refine ev_go hc_X12_name (k := 1) (pc' := 65) (L' := [.ref l0, .int l1, .int l2, .int l3, .int l4]) (S' := []) rfl ?_
        exact Ev.weak (ci_le_c (Or.inr rfl) (ci_le_c (Or.inr rfl) (ci_le_c (Or.inr rfl) (ci_le_c (Or.inr rfl) (ci_le_c (Or.inr rfl) (ci_le_n)))))) (eb_X12_name_65 hd ih H)
def F_X12_name (a0 : Nat) (a1 : Int32) (h : ci_H) : Option (Int32 × ci_H) := if kO h a0 = some 12 then ((pF h a0 12 11 (.int 0)).bind fun h1 => (F_X12_areThings a0 a1 h1).bind fun q2 => if q2.1 = 0 then (some ((-1), q2.2)) else (b_X12_name_22 a0 a1 bigN 0 ((-1)) 0 q2.2)) else none
theorem K_X12_name {a0 : Nat} {a1 : Int32} {h : ci_H} {r : Int32 × ci_H} (H : F_X12_name a0 a1 h = some r) : kO h a0 = some 12 := by
  unfold F_X12_name at H
  by_cases c : kO h a0 = some 12
  · exact c
  · rw [if_neg c] at H; cases H
set_option maxHeartbeats 4000000 in
set_option maxRecDepth 20000 in
theorem E_X12_name {xs : Nat → Int32} {N d : Nat} {nx : ci_N} {a0 : Nat} {a1 : Int32} {h : ci_H} {r : Int32 × ci_H} (H : F_X12_name a0 a1 h = some r) (hd : 2 ≤ d) : Ev xs N d 255 0 (ci_entry [.ref a0, .int a1] 5) [] h nx (oI r nx) := by
  obtain ⟨d, rfl⟩ : ∃ d2, d = d2 + 1 := ⟨d - 1, by omega⟩
  have hd : 1 ≤ d := by omega
  unfold F_X12_name at H
  by_cases ck : kO h a0 = some 12
  · rw [if_pos ck] at H
    show Ev xs N (d + 1) 255 0 [.ref a0, .int a1, ci_junk, ci_junk, ci_junk] [] h nx _
    refine ev_go hc_X12_name (k := 2) (pc' := 2) (L' := [.ref a0, .int a1, ci_junk, ci_junk, ci_junk]) (S' := [.int 0, .ref a0]) rfl ?_
    obtain ⟨h1, eh1, H⟩ := Option.bind_eq_some_iff.mp H
    refine ev_5 hc_X12_name (fe_X12_name (pc := 2) rfl) (pF_pf eh1) ?_
    refine ev_go hc_X12_name (k := 2) (pc' := 7) (L' := [.ref a0, .int a1, ci_junk, ci_junk, ci_junk]) (S' := [.int a1, .ref a0]) rfl ?_
    obtain ⟨q2, eq2, H⟩ := Option.bind_eq_some_iff.mp H
    refine ev_call (vs := [.ref a0, .int a1]) (rest := []) (q := q_X12_areThings) hc_X12_name (Or.inr rfl) (fe_X12_name (pc := 7) rfl) ms_177 rfl rfl (Nat.le_of_ble_eq_true rfl) (kO_recv (K_X12_areThings eq2)) (E_X12_areThings eq2 (by omega)) rfl ?_
    show Ev xs N (d + 1) 255 10 [.ref a0, .int a1, ci_junk, ci_junk, ci_junk] [.int q2.1] q2.2 nx _
    by_cases c3 : q2.1 = 0
    · rw [if_pos c3] at H
      refine ev_bt hc_X12_name (fe_X12_name (pc := 10) rfl) rfl c3 ?_
      refine ev_go hc_X12_name (k := 1) (pc' := 14) (L' := [.ref a0, .int a1, ci_junk, ci_junk, ci_junk]) (S' := [.int ((-1))]) rfl ?_
      obtain rfl := Option.some.inj H
      exact ev_8 hc_X12_name (fe_X12_name (pc := 14) rfl) rfl
    · rw [if_neg c3] at H
      refine ev_bf hc_X12_name (fe_X12_name (pc := 10) rfl) rfl c3 ?_
      refine ev_go hc_X12_name (k := 6) (pc' := 22) (L' := [.ref a0, .int a1, .int 0, .int ((-1)), .int 0]) (S' := []) rfl ?_
      exact Ev.weak (ci_le_c (Or.inr rfl) (ci_le_c (Or.inr rfl) (ci_le_c (Or.inr rfl) (ci_le_c (Or.inr rfl) (ci_le_c (Or.inr rfl) (ci_le_n)))))) (eb_X12_name_22 hd bigN _ _ _ _ _ H)
  · rw [if_neg ck] at H; cases H
def mg_X12_goDeal (j : Nat) : Nat := match j with

  | _ => 256
theorem hc_X12_goDeal : ci_code (ci_Ms 256) = k_X12_goDeal := rfl
theorem fe_X12_goDeal {pc : Nat} {w : Option ci_I} (h : (k_X12_goDeal)[pc]? = some w) : (k_X12_goDeal)[pc]? = some w := h
def b_X12_goDeal_25 (rc : Nat → Nat → Int32 → Int32 → Int32 → ci_H → Option (ci_H)) (l0 : Nat) : Nat → Int32 → ci_H → Option (ci_H)
  | 0, _, _ => none
  | n + 1, l4, h => (gI h l0 12 1).bind fun v1 => if v1 ≤ l4 then (some h) else ((gR h l0 12 28).bind fun v3 => (gR h l0 12 27).bind fun v4 => (rI h v4 l4).bind fun v5 => (wI h v3 l4 v5).bind fun h6 => b_X12_goDeal_25 rc l0 n (l4 + 1) h6)
set_option maxHeartbeats 4000000 in
set_option maxRecDepth 20000 in
theorem eb_X12_goDeal_25 {xs : Nat → Int32} {N d : Nat} {nx : ci_N} {rc : Nat → Nat → Int32 → Int32 → Int32 → ci_H → Option (ci_H)} {l0 : Nat} (hd : 0 ≤ d) (hrc : ∀ (j : Nat) (a0 : Nat) (a1 : Int32) (a2 : Int32) (a3 : Int32) (h : ci_H) (r : ci_H), rc j a0 a1 a2 a3 h = some r → Ev xs N d (mg_X12_goDeal j) 0 (ci_entry [.ref a0, .int a1, .int a2, .int a3] (ci_n (ci_Ms (mg_X12_goDeal j)))) [] h nx (oV r nx)) (hrk : ∀ (j : Nat) (a0 : Nat) (a1 : Int32) (a2 : Int32) (a3 : Int32) (h : ci_H) (r : ci_H), rc j a0 a1 a2 a3 h = some r → kO h a0 = some 12) : ∀ (n : Nat) (l4 : Int32) (h : ci_H) (r : ci_H), b_X12_goDeal_25 rc l0 n l4 h = some r → Ev xs N (d + 1) 256 25 [.ref l0, ci_junk, ci_junk, ci_junk, .int l4] [] h nx (oV r nx) := by
  intro n
  induction n with
  | zero => intro l4 h r H; unfold b_X12_goDeal_25 at H; cases H
  | succ n ih =>
    intro l4 h r H
    unfold b_X12_goDeal_25 at H
    refine ev_go hc_X12_goDeal (k := 2) (pc' := 28) (L' := [.ref l0, ci_junk, ci_junk, ci_junk, .int l4]) (S' := [.ref l0, .int l4]) rfl ?_
    obtain ⟨v1, ev1, H⟩ := Option.bind_eq_some_iff.mp H
    refine ev_4 hc_X12_goDeal (fe_X12_goDeal (pc := 28) rfl) (gI_gf ev1) ?_
    by_cases c2 : v1 ≤ l4
    · rw [if_pos c2] at H
      refine ev_bt hc_X12_goDeal (fe_X12_goDeal (pc := 31) rfl) rfl c2 ?_
      obtain rfl := Option.some.inj H
      exact ev_8 hc_X12_goDeal (fe_X12_goDeal (pc := 54) rfl) rfl
    · rw [if_neg c2] at H
      refine ev_bf hc_X12_goDeal (fe_X12_goDeal (pc := 31) rfl) rfl c2 ?_
      refine ev_go hc_X12_goDeal (k := 1) (pc' := 35) (L' := [.ref l0, ci_junk, ci_junk, ci_junk, .int l4]) (S' := [.ref l0]) rfl ?_
      obtain ⟨v3, ev3, H⟩ := Option.bind_eq_some_iff.mp H
      refine ev_4 hc_X12_goDeal (fe_X12_goDeal (pc := 35) rfl) (gR_gf ev3) ?_
      refine ev_go hc_X12_goDeal (k := 2) (pc' := 41) (L' := [.ref l0, ci_junk, ci_junk, ci_junk, .int l4]) (S' := [.ref l0, .int l4, .ref v3]) rfl ?_
      obtain ⟨v4, ev4, H⟩ := Option.bind_eq_some_iff.mp H
      refine ev_4 hc_X12_goDeal (fe_X12_goDeal (pc := 41) rfl) (gR_gf ev4) ?_
      refine ev_go hc_X12_goDeal (k := 1) (pc' := 46) (L' := [.ref l0, ci_junk, ci_junk, ci_junk, .int l4]) (S' := [.int l4, .ref v4, .int l4, .ref v3]) rfl ?_
      obtain ⟨v5, ev5, H⟩ := Option.bind_eq_some_iff.mp H
      refine ev_4 hc_X12_goDeal (fe_X12_goDeal (pc := 46) rfl) (rI_al ev5) ?_
      obtain ⟨h6, eh6, H⟩ := Option.bind_eq_some_iff.mp H
      refine ev_5 hc_X12_goDeal (fe_X12_goDeal (pc := 47) rfl) (wI_as eh6) ?_
      refine ev_go hc_X12_goDeal (k := 2) (pc' := 25) (L' := [.ref l0, ci_junk, ci_junk, ci_junk, .int (l4 + 1)]) (S' := []) rfl ?_
      exact Ev.weak (ci_le_c (Or.inr rfl) (ci_le_c (Or.inl rfl) (ci_le_c (Or.inl rfl) (ci_le_c (Or.inl rfl) (ci_le_c (Or.inr rfl) (ci_le_n)))))) (ih _ _ _ H)
def b_X12_goDeal_146 (rc : Nat → Nat → Int32 → Int32 → Int32 → ci_H → Option (ci_H)) (r_74 : Int32 → ci_H → Option (ci_H)) (l0 : Nat) (l1 : Int32) (l2 : Int32) (l3 : Int32) (l4 : Int32)  (h : ci_H) : Option (ci_H) := r_74 (l4 + 1) h
set_option maxHeartbeats 4000000 in
set_option maxRecDepth 20000 in
theorem eb_X12_goDeal_146 {xs : Nat → Int32} {N d : Nat} {nx : ci_N} {rc : Nat → Nat → Int32 → Int32 → Int32 → ci_H → Option (ci_H)} {r_74 : Int32 → ci_H → Option (ci_H)} {l0 : Nat} {l1 : Int32} {l2 : Int32} {l3 : Int32} {l4 : Int32} (hd : 0 ≤ d) (hrc : ∀ (j : Nat) (a0 : Nat) (a1 : Int32) (a2 : Int32) (a3 : Int32) (h : ci_H) (r : ci_H), rc j a0 a1 a2 a3 h = some r → Ev xs N d (mg_X12_goDeal j) 0 (ci_entry [.ref a0, .int a1, .int a2, .int a3] (ci_n (ci_Ms (mg_X12_goDeal j)))) [] h nx (oV r nx)) (hrk : ∀ (j : Nat) (a0 : Nat) (a1 : Int32) (a2 : Int32) (a3 : Int32) (h : ci_H) (r : ci_H), rc j a0 a1 a2 a3 h = some r → kO h a0 = some 12) (h_74 : ∀ (l4 : Int32) (h : ci_H) (r : ci_H), r_74 l4 h = some r → Ev xs N (d + 1) 256 74 [.ref l0, .int l1, .int l2, .int l3, .int l4] [] h nx (oV r nx)) {h : ci_H} {r : ci_H} (H : b_X12_goDeal_146 rc r_74 l0 l1 l2 l3 l4 h = some r) : Ev xs N (d + 1) 256 146 [.ref l0, .int l1, .int l2, .int l3, .int l4] [] h nx (oV r nx) := by
  unfold b_X12_goDeal_146 at H
  refine ev_go hc_X12_goDeal (k := 2) (pc' := 74) (L' := [.ref l0, .int l1, .int l2, .int l3, .int (l4 + 1)]) (S' := []) rfl ?_
  exact Ev.weak (ci_le_c (Or.inr rfl) (ci_le_c (Or.inr rfl) (ci_le_c (Or.inr rfl) (ci_le_c (Or.inr rfl) (ci_le_c (Or.inr rfl) (ci_le_n)))))) (h_74 _ _ _ H)
def b_X12_goDeal_74 (rc : Nat → Nat → Int32 → Int32 → Int32 → ci_H → Option (ci_H)) (l0 : Nat) (l1 : Int32) (l2 : Int32) (l3 : Int32) : Nat → Int32 → ci_H → Option (ci_H)
  | 0, _, _ => none
  | n + 1, l4, h => (gI h l0 12 2).bind fun v1 => if v1 ≤ l4 then (some h) else ((F_X12_has l2 l4 h).bind fun q3 => if q3.1 = 0 then ((gR q3.2 l0 12 31).bind fun v5 => (rI q3.2 v5 ((12 * l1) + l4)).bind fun v6 => if v6 = ((-1)) then (b_X12_goDeal_146 rc (fun x0 x1 => b_X12_goDeal_74 rc l0 l1 l2 l3 n x0 x1) l0 l1 l2 l3 l4 q3.2) else ((gR q3.2 l0 12 27).bind fun v8 => (wI q3.2 v8 l1 l4).bind fun h9 => (gR h9 l0 12 31).bind fun v10 => (rI h9 v10 ((12 * l1) + l4)).bind fun v11 => (rc 0 l0 (l1 + 1) (l2 ||| ((1 : Int32) <<< (l4 &&& 31))) (l3 + v11) h9).bind fun h12 => b_X12_goDeal_146 rc (fun x0 x1 => b_X12_goDeal_74 rc l0 l1 l2 l3 n x0 x1) l0 l1 l2 l3 l4 h12)) else (b_X12_goDeal_146 rc (fun x0 x1 => b_X12_goDeal_74 rc l0 l1 l2 l3 n x0 x1) l0 l1 l2 l3 l4 q3.2))
set_option maxHeartbeats 4000000 in
set_option maxRecDepth 20000 in
theorem eb_X12_goDeal_74 {xs : Nat → Int32} {N d : Nat} {nx : ci_N} {rc : Nat → Nat → Int32 → Int32 → Int32 → ci_H → Option (ci_H)} {l0 : Nat} {l1 : Int32} {l2 : Int32} {l3 : Int32} (hd : 0 ≤ d) (hrc : ∀ (j : Nat) (a0 : Nat) (a1 : Int32) (a2 : Int32) (a3 : Int32) (h : ci_H) (r : ci_H), rc j a0 a1 a2 a3 h = some r → Ev xs N d (mg_X12_goDeal j) 0 (ci_entry [.ref a0, .int a1, .int a2, .int a3] (ci_n (ci_Ms (mg_X12_goDeal j)))) [] h nx (oV r nx)) (hrk : ∀ (j : Nat) (a0 : Nat) (a1 : Int32) (a2 : Int32) (a3 : Int32) (h : ci_H) (r : ci_H), rc j a0 a1 a2 a3 h = some r → kO h a0 = some 12) : ∀ (n : Nat) (l4 : Int32) (h : ci_H) (r : ci_H), b_X12_goDeal_74 rc l0 l1 l2 l3 n l4 h = some r → Ev xs N (d + 1) 256 74 [.ref l0, .int l1, .int l2, .int l3, .int l4] [] h nx (oV r nx) := by
  intro n
  induction n with
  | zero => intro l4 h r H; unfold b_X12_goDeal_74 at H; cases H
  | succ n ih =>
    intro l4 h r H
    unfold b_X12_goDeal_74 at H
    refine ev_go hc_X12_goDeal (k := 2) (pc' := 77) (L' := [.ref l0, .int l1, .int l2, .int l3, .int l4]) (S' := [.ref l0, .int l4]) rfl ?_
    obtain ⟨v1, ev1, H⟩ := Option.bind_eq_some_iff.mp H
    refine ev_4 hc_X12_goDeal (fe_X12_goDeal (pc := 77) rfl) (gI_gf ev1) ?_
    by_cases c2 : v1 ≤ l4
    · rw [if_pos c2] at H
      refine ev_bt hc_X12_goDeal (fe_X12_goDeal (pc := 80) rfl) rfl c2 ?_
      obtain rfl := Option.some.inj H
      exact ev_8 hc_X12_goDeal (fe_X12_goDeal (pc := 152) rfl) rfl
    · rw [if_neg c2] at H
      refine ev_bf hc_X12_goDeal (fe_X12_goDeal (pc := 80) rfl) rfl c2 ?_
      refine ev_go hc_X12_goDeal (k := 2) (pc' := 86) (L' := [.ref l0, .int l1, .int l2, .int l3, .int l4]) (S' := [.int l4, .int l2]) rfl ?_
      obtain ⟨q3, eq3, H⟩ := Option.bind_eq_some_iff.mp H
      refine ev_call (vs := [.int l2, .int l4]) (rest := []) (q := q_X12_has) hc_X12_goDeal (Or.inl rfl) (fe_X12_goDeal (pc := 86) rfl) ms_171 rfl rfl (Nat.le_of_ble_eq_true rfl) rfl (E_X12_has eq3 (by omega)) rfl ?_
      show Ev xs N (d + 1) 256 89 [.ref l0, .int l1, .int l2, .int l3, .int l4] [.int q3.1] q3.2 nx _
      by_cases c4 : q3.1 = 0
      · rw [if_pos c4] at H
        refine ev_bt hc_X12_goDeal (fe_X12_goDeal (pc := 89) rfl) rfl c4 ?_
        refine ev_go hc_X12_goDeal (k := 1) (pc' := 93) (L' := [.ref l0, .int l1, .int l2, .int l3, .int l4]) (S' := [.ref l0]) rfl ?_
        obtain ⟨v5, ev5, H⟩ := Option.bind_eq_some_iff.mp H
        refine ev_4 hc_X12_goDeal (fe_X12_goDeal (pc := 93) rfl) (gR_gf ev5) ?_
        refine ev_go hc_X12_goDeal (k := 5) (pc' := 103) (L' := [.ref l0, .int l1, .int l2, .int l3, .int l4]) (S' := [.int ((12 * l1) + l4), .ref v5]) rfl ?_
        obtain ⟨v6, ev6, H⟩ := Option.bind_eq_some_iff.mp H
        refine ev_4 hc_X12_goDeal (fe_X12_goDeal (pc := 103) rfl) (rI_al ev6) ?_
        refine ev_go hc_X12_goDeal (k := 1) (pc' := 105) (L' := [.ref l0, .int l1, .int l2, .int l3, .int l4]) (S' := [.int ((-1)), .int v6]) rfl ?_
        by_cases c7 : v6 = ((-1))
        · rw [if_pos c7] at H
          refine ev_bt hc_X12_goDeal (fe_X12_goDeal (pc := 105) rfl) rfl c7 ?_
          refine ev_go hc_X12_goDeal (k := 1) (pc' := 146) (L' := [.ref l0, .int l1, .int l2, .int l3, .int l4]) (S' := []) rfl ?_
          exact Ev.weak (ci_le_c (Or.inr rfl) (ci_le_c (Or.inr rfl) (ci_le_c (Or.inr rfl) (ci_le_c (Or.inr rfl) (ci_le_c (Or.inr rfl) (ci_le_n)))))) (eb_X12_goDeal_146 hd hrc hrk ih H)
        · rw [if_neg c7] at H
          refine ev_bf hc_X12_goDeal (fe_X12_goDeal (pc := 105) rfl) rfl c7 ?_
          refine ev_go hc_X12_goDeal (k := 1) (pc' := 112) (L' := [.ref l0, .int l1, .int l2, .int l3, .int l4]) (S' := [.ref l0]) rfl ?_
          obtain ⟨v8, ev8, H⟩ := Option.bind_eq_some_iff.mp H
          refine ev_4 hc_X12_goDeal (fe_X12_goDeal (pc := 112) rfl) (gR_gf ev8) ?_
          refine ev_go hc_X12_goDeal (k := 2) (pc' := 118) (L' := [.ref l0, .int l1, .int l2, .int l3, .int l4]) (S' := [.int l4, .int l1, .ref v8]) rfl ?_
          obtain ⟨h9, eh9, H⟩ := Option.bind_eq_some_iff.mp H
          refine ev_5 hc_X12_goDeal (fe_X12_goDeal (pc := 118) rfl) (wI_as eh9) ?_
          refine ev_go hc_X12_goDeal (k := 11) (pc' := 131) (L' := [.ref l0, .int l1, .int l2, .int l3, .int l4]) (S' := [.ref l0, .int l3, .int (l2 ||| ((1 : Int32) <<< (l4 &&& 31))), .int (l1 + 1), .ref l0]) rfl ?_
          obtain ⟨v10, ev10, H⟩ := Option.bind_eq_some_iff.mp H
          refine ev_4 hc_X12_goDeal (fe_X12_goDeal (pc := 131) rfl) (gR_gf ev10) ?_
          refine ev_go hc_X12_goDeal (k := 5) (pc' := 141) (L' := [.ref l0, .int l1, .int l2, .int l3, .int l4]) (S' := [.int ((12 * l1) + l4), .ref v10, .int l3, .int (l2 ||| ((1 : Int32) <<< (l4 &&& 31))), .int (l1 + 1), .ref l0]) rfl ?_
          obtain ⟨v11, ev11, H⟩ := Option.bind_eq_some_iff.mp H
          refine ev_4 hc_X12_goDeal (fe_X12_goDeal (pc := 141) rfl) (rI_al ev11) ?_
          refine ev_go hc_X12_goDeal (k := 1) (pc' := 143) (L' := [.ref l0, .int l1, .int l2, .int l3, .int l4]) (S' := [.int (l3 + v11), .int (l2 ||| ((1 : Int32) <<< (l4 &&& 31))), .int (l1 + 1), .ref l0]) rfl ?_
          obtain ⟨h12, eh12, H⟩ := Option.bind_eq_some_iff.mp H
          refine ev_call (vs := [.ref l0, .int (l1 + 1), .int (l2 ||| ((1 : Int32) <<< (l4 &&& 31))), .int (l3 + v11)]) (rest := []) (q := q_X12_goDeal) hc_X12_goDeal (Or.inr rfl) (fe_X12_goDeal (pc := 143) rfl) ms_256 rfl rfl (Nat.le_of_ble_eq_true rfl) (kO_recv (hrk _ _ _ _ _ _ _ eh12)) (hrc 0 _ _ _ _ _ _ eh12) rfl ?_
          show Ev xs N (d + 1) 256 146 [.ref l0, .int l1, .int l2, .int l3, .int l4] [] h12 nx _
          exact Ev.weak (ci_le_c (Or.inr rfl) (ci_le_c (Or.inr rfl) (ci_le_c (Or.inr rfl) (ci_le_c (Or.inr rfl) (ci_le_c (Or.inr rfl) (ci_le_n)))))) (eb_X12_goDeal_146 hd hrc hrk ih H)
      · rw [if_neg c4] at H
        refine ev_bf hc_X12_goDeal (fe_X12_goDeal (pc := 89) rfl) rfl c4 ?_
        exact Ev.weak (ci_le_c (Or.inr rfl) (ci_le_c (Or.inr rfl) (ci_le_c (Or.inr rfl) (ci_le_c (Or.inr rfl) (ci_le_c (Or.inr rfl) (ci_le_n)))))) (eb_X12_goDeal_146 hd hrc hrk ih H)
def G_X12_goDeal (rc : Nat → Nat → Int32 → Int32 → Int32 → ci_H → Option (ci_H)) (a0 : Nat) (a1 : Int32) (a2 : Int32) (a3 : Int32) (h : ci_H) : Option (ci_H) := if kO h a0 = some 12 then ((gI h a0 12 1).bind fun v1 => if a1 = v1 then ((gI h a0 12 30).bind fun v3 => if v3 < a3 then ((pF h a0 12 30 (.int a3)).bind fun h5 => b_X12_goDeal_25 rc a0 bigN 0 h5) else (some h)) else ((gR h a0 12 27).bind fun v6 => (wI h v6 a1 ((-1))).bind fun h7 => (rc 0 a0 (a1 + 1) a2 a3 h7).bind fun h8 => b_X12_goDeal_74 rc a0 a1 a2 a3 bigN 0 h8)) else none
theorem KG_X12_goDeal {rc : Nat → Nat → Int32 → Int32 → Int32 → ci_H → Option (ci_H)} {a0 : Nat} {a1 : Int32} {a2 : Int32} {a3 : Int32} {h : ci_H} {r : ci_H} (H : G_X12_goDeal rc a0 a1 a2 a3 h = some r) : kO h a0 = some 12 := by
  unfold G_X12_goDeal at H
  by_cases c : kO h a0 = some 12
  · exact c
  · rw [if_neg c] at H; cases H
set_option maxHeartbeats 4000000 in
set_option maxRecDepth 20000 in
theorem EG_X12_goDeal {xs : Nat → Int32} {N d : Nat} {nx : ci_N} {rc : Nat → Nat → Int32 → Int32 → Int32 → ci_H → Option (ci_H)} {a0 : Nat} {a1 : Int32} {a2 : Int32} {a3 : Int32} (hd : 0 ≤ d) (hrc : ∀ (j : Nat) (a0 : Nat) (a1 : Int32) (a2 : Int32) (a3 : Int32) (h : ci_H) (r : ci_H), rc j a0 a1 a2 a3 h = some r → Ev xs N d (mg_X12_goDeal j) 0 (ci_entry [.ref a0, .int a1, .int a2, .int a3] (ci_n (ci_Ms (mg_X12_goDeal j)))) [] h nx (oV r nx)) (hrk : ∀ (j : Nat) (a0 : Nat) (a1 : Int32) (a2 : Int32) (a3 : Int32) (h : ci_H) (r : ci_H), rc j a0 a1 a2 a3 h = some r → kO h a0 = some 12) {h : ci_H} {r : ci_H} (H : G_X12_goDeal rc a0 a1 a2 a3 h = some r) : Ev xs N (d + 1) 256 0 (ci_entry [.ref a0, .int a1, .int a2, .int a3] 5) [] h nx (oV r nx) := by
  unfold G_X12_goDeal at H
  by_cases ck : kO h a0 = some 12
  · rw [if_pos ck] at H
    show Ev xs N (d + 1) 256 0 [.ref a0, .int a1, .int a2, .int a3, ci_junk] [] h nx _
    refine ev_go hc_X12_goDeal (k := 2) (pc' := 2) (L' := [.ref a0, .int a1, .int a2, .int a3, ci_junk]) (S' := [.ref a0, .int a1]) rfl ?_
    obtain ⟨v1, ev1, H⟩ := Option.bind_eq_some_iff.mp H
    refine ev_4 hc_X12_goDeal (fe_X12_goDeal (pc := 2) rfl) (gI_gf ev1) ?_
    by_cases c2 : a1 = v1
    · rw [if_pos c2] at H
      refine ev_bt hc_X12_goDeal (fe_X12_goDeal (pc := 5) rfl) rfl c2 ?_
      refine ev_go hc_X12_goDeal (k := 2) (pc' := 10) (L' := [.ref a0, .int a1, .int a2, .int a3, ci_junk]) (S' := [.ref a0, .int a3]) rfl ?_
      obtain ⟨v3, ev3, H⟩ := Option.bind_eq_some_iff.mp H
      refine ev_4 hc_X12_goDeal (fe_X12_goDeal (pc := 10) rfl) (gI_gf ev3) ?_
      by_cases c4 : v3 < a3
      · rw [if_pos c4] at H
        refine ev_bt hc_X12_goDeal (fe_X12_goDeal (pc := 13) rfl) rfl c4 ?_
        refine ev_go hc_X12_goDeal (k := 2) (pc' := 19) (L' := [.ref a0, .int a1, .int a2, .int a3, ci_junk]) (S' := [.int a3, .ref a0]) rfl ?_
        obtain ⟨h5, eh5, H⟩ := Option.bind_eq_some_iff.mp H
        refine ev_5 hc_X12_goDeal (fe_X12_goDeal (pc := 19) rfl) (pF_pf eh5) ?_
        refine ev_go hc_X12_goDeal (k := 2) (pc' := 25) (L' := [.ref a0, .int a1, .int a2, .int a3, .int 0]) (S' := []) rfl ?_
        exact Ev.weak (ci_le_c (Or.inr rfl) (ci_le_c (Or.inl rfl) (ci_le_c (Or.inl rfl) (ci_le_c (Or.inl rfl) (ci_le_c (Or.inr rfl) (ci_le_n)))))) (eb_X12_goDeal_25 hd hrc hrk bigN _ _ _ H)
      · rw [if_neg c4] at H
        refine ev_bf hc_X12_goDeal (fe_X12_goDeal (pc := 13) rfl) rfl c4 ?_
        obtain rfl := Option.some.inj H
        exact ev_8 hc_X12_goDeal (fe_X12_goDeal (pc := 16) rfl) rfl
    · rw [if_neg c2] at H
      refine ev_bf hc_X12_goDeal (fe_X12_goDeal (pc := 5) rfl) rfl c2 ?_
      refine ev_go hc_X12_goDeal (k := 1) (pc' := 56) (L' := [.ref a0, .int a1, .int a2, .int a3, ci_junk]) (S' := [.ref a0]) rfl ?_
      obtain ⟨v6, ev6, H⟩ := Option.bind_eq_some_iff.mp H
      refine ev_4 hc_X12_goDeal (fe_X12_goDeal (pc := 56) rfl) (gR_gf ev6) ?_
      refine ev_go hc_X12_goDeal (k := 2) (pc' := 61) (L' := [.ref a0, .int a1, .int a2, .int a3, ci_junk]) (S' := [.int ((-1)), .int a1, .ref v6]) rfl ?_
      obtain ⟨h7, eh7, H⟩ := Option.bind_eq_some_iff.mp H
      refine ev_5 hc_X12_goDeal (fe_X12_goDeal (pc := 61) rfl) (wI_as eh7) ?_
      refine ev_go hc_X12_goDeal (k := 6) (pc' := 68) (L' := [.ref a0, .int a1, .int a2, .int a3, ci_junk]) (S' := [.int a3, .int a2, .int (a1 + 1), .ref a0]) rfl ?_
      obtain ⟨h8, eh8, H⟩ := Option.bind_eq_some_iff.mp H
      refine ev_call (vs := [.ref a0, .int (a1 + 1), .int a2, .int a3]) (rest := []) (q := q_X12_goDeal) hc_X12_goDeal (Or.inr rfl) (fe_X12_goDeal (pc := 68) rfl) ms_256 rfl rfl (Nat.le_of_ble_eq_true rfl) (kO_recv (hrk _ _ _ _ _ _ _ eh8)) (hrc 0 _ _ _ _ _ _ eh8) rfl ?_
      show Ev xs N (d + 1) 256 71 [.ref a0, .int a1, .int a2, .int a3, ci_junk] [] h8 nx _
      refine ev_go hc_X12_goDeal (k := 2) (pc' := 74) (L' := [.ref a0, .int a1, .int a2, .int a3, .int 0]) (S' := []) rfl ?_
      exact Ev.weak (ci_le_c (Or.inr rfl) (ci_le_c (Or.inr rfl) (ci_le_c (Or.inr rfl) (ci_le_c (Or.inr rfl) (ci_le_c (Or.inr rfl) (ci_le_n)))))) (eb_X12_goDeal_74 hd hrc hrk bigN _ _ _ H)
  · rw [if_neg ck] at H; cases H
def FG_X12_goDeal : Nat → Nat → Nat → Int32 → Int32 → Int32 → ci_H → Option (ci_H)
  | 0, _, _, _, _, _, _ => none
  | n + 1, j, a0, a1, a2, a3, h => match j with
    | _ => G_X12_goDeal (fun j a0 a1 a2 a3 h => FG_X12_goDeal n j a0 a1 a2 a3 h) a0 a1 a2 a3 h
theorem KGG_X12_goDeal : ∀ (n j : Nat) (a0 : Nat) (a1 : Int32) (a2 : Int32) (a3 : Int32) (h : ci_H) (r : ci_H), FG_X12_goDeal n j a0 a1 a2 a3 h = some r → kO h a0 = some 12 := by
  intro n j a0 a1 a2 a3 h r H
  cases n with
  | zero => cases H
  | succ n =>
    match j, H with
    | j, H => exact KG_X12_goDeal H
theorem EGG_X12_goDeal {xs : Nat → Int32} {N : Nat} {nx : ci_N} : ∀ (n d j : Nat) (a0 : Nat) (a1 : Int32) (a2 : Int32) (a3 : Int32) (h : ci_H) (r : ci_H), FG_X12_goDeal n j a0 a1 a2 a3 h = some r → n + 1 ≤ d → Ev xs N d (mg_X12_goDeal j) 0 (ci_entry [.ref a0, .int a1, .int a2, .int a3] (ci_n (ci_Ms (mg_X12_goDeal j)))) [] h nx (oV r nx) := by
  intro n
  induction n with
  | zero => intro d j a0 a1 a2 a3 h r H; cases H
  | succ n ih =>
    intro d j a0 a1 a2 a3 h r H hd
    obtain ⟨d, rfl⟩ : ∃ d2, d = d2 + 1 := ⟨d - 1, by omega⟩
    match j, H with
    | j, H => exact EG_X12_goDeal (by omega) (fun j a0 a1 a2 a3 h r H => ih d j a0 a1 a2 a3 h r H (by omega)) (KGG_X12_goDeal n) H
def F_X12_goDeal (a0 : Nat) (a1 : Int32) (a2 : Int32) (a3 : Int32) (h : ci_H) : Option (ci_H) := FG_X12_goDeal recN 0 a0 a1 a2 a3 h
theorem K_X12_goDeal {a0 : Nat} {a1 : Int32} {a2 : Int32} {a3 : Int32} {h : ci_H} {r : ci_H} (H : F_X12_goDeal a0 a1 a2 a3 h = some r) : kO h a0 = some 12 := KGG_X12_goDeal recN 0 _ _ _ _ h r H
theorem E_X12_goDeal {xs : Nat → Int32} {N d : Nat} {nx : ci_N} {a0 : Nat} {a1 : Int32} {a2 : Int32} {a3 : Int32} {h : ci_H} {r : ci_H} (H : F_X12_goDeal a0 a1 a2 a3 h = some r) (hd : 101 ≤ d) : Ev xs N d 256 0 (ci_entry [.ref a0, .int a1, .int a2, .int a3] 5) [] h nx (oV r nx) := EGG_X12_goDeal recN d 0 _ _ _ _ h r H (by unfold recN; omega)
theorem hc_X12_deal : ci_code (ci_Ms 257) = k_X12_deal := rfl
theorem fe_X12_deal {pc : Nat} {w : Option ci_I} (h : (k_X12_deal)[pc]? = some w) : (k_X12_deal)[pc]? = some w := h
def b_X12_deal_94 (l0 : Nat) : Nat → Int32 → ci_H → Option (Int32 × ci_H)
  | 0, _, _ => none
  | n + 1, l1, h => (gI h l0 12 1).bind fun v1 => if v1 ≤ l1 then ((gI h l0 12 30).bind fun v3 => some (v3, h)) else ((gR h l0 12 28).bind fun v4 => (rI h v4 l1).bind fun v5 => (F_X12_tell l0 ((v5 : Int32).toInt64) h).bind fun h6 => b_X12_deal_94 l0 n (l1 + 1) h6)
set_option maxHeartbeats 4000000 in
set_option maxRecDepth 20000 in
theorem eb_X12_deal_94 {xs : Nat → Int32} {N d : Nat} {nx : ci_N} {l0 : Nat} (hd : 105 ≤ d) : ∀ (n : Nat) (l1 : Int32) (h : ci_H) (r : Int32 × ci_H), b_X12_deal_94 l0 n l1 h = some r → Ev xs N (d + 1) 257 94 [.ref l0, .int l1, ci_junk] [] h nx (oI r nx) := by
  intro n
  induction n with
  | zero => intro l1 h r H; unfold b_X12_deal_94 at H; cases H
  | succ n ih =>
    intro l1 h r H
    unfold b_X12_deal_94 at H
    refine ev_go hc_X12_deal (k := 2) (pc' := 96) (L' := [.ref l0, .int l1, ci_junk]) (S' := [.ref l0, .int l1]) rfl ?_
    obtain ⟨v1, ev1, H⟩ := Option.bind_eq_some_iff.mp H
    refine ev_4 hc_X12_deal (fe_X12_deal (pc := 96) rfl) (gI_gf ev1) ?_
    by_cases c2 : v1 ≤ l1
    · rw [if_pos c2] at H
      refine ev_bt hc_X12_deal (fe_X12_deal (pc := 99) rfl) rfl c2 ?_
      refine ev_go hc_X12_deal (k := 1) (pc' := 120) (L' := [.ref l0, .int l1, ci_junk]) (S' := [.ref l0]) rfl ?_
      obtain ⟨v3, ev3, H⟩ := Option.bind_eq_some_iff.mp H
      refine ev_4 hc_X12_deal (fe_X12_deal (pc := 120) rfl) (gI_gf ev3) ?_
      obtain rfl := Option.some.inj H
      exact ev_8 hc_X12_deal (fe_X12_deal (pc := 123) rfl) rfl
    · rw [if_neg c2] at H
      refine ev_bf hc_X12_deal (fe_X12_deal (pc := 99) rfl) rfl c2 ?_
      refine ev_go hc_X12_deal (k := 2) (pc' := 104) (L' := [.ref l0, .int l1, ci_junk]) (S' := [.ref l0, .ref l0]) rfl ?_
      obtain ⟨v4, ev4, H⟩ := Option.bind_eq_some_iff.mp H
      refine ev_4 hc_X12_deal (fe_X12_deal (pc := 104) rfl) (gR_gf ev4) ?_
      refine ev_go hc_X12_deal (k := 1) (pc' := 108) (L' := [.ref l0, .int l1, ci_junk]) (S' := [.int l1, .ref v4, .ref l0]) rfl ?_
      obtain ⟨v5, ev5, H⟩ := Option.bind_eq_some_iff.mp H
      refine ev_4 hc_X12_deal (fe_X12_deal (pc := 108) rfl) (rI_al ev5) ?_
      refine ev_go hc_X12_deal (k := 1) (pc' := 110) (L' := [.ref l0, .int l1, ci_junk]) (S' := [.long ((v5 : Int32).toInt64), .ref l0]) rfl ?_
      obtain ⟨h6, eh6, H⟩ := Option.bind_eq_some_iff.mp H
      refine ev_call (vs := [.ref l0, .long ((v5 : Int32).toInt64)]) (rest := []) (q := q_X12_tell) hc_X12_deal (Or.inr rfl) (fe_X12_deal (pc := 110) rfl) ms_173 rfl rfl (Nat.le_of_ble_eq_true rfl) (kO_recv (K_X12_tell eh6)) (E_X12_tell eh6 (by omega)) rfl ?_
      show Ev xs N (d + 1) 257 113 [.ref l0, .int l1, ci_junk] [] h6 nx _
      refine ev_go hc_X12_deal (k := 2) (pc' := 94) (L' := [.ref l0, .int (l1 + 1), ci_junk]) (S' := []) rfl ?_
      exact Ev.weak (ci_le_c (Or.inr rfl) (ci_le_c (Or.inr rfl) (ci_le_c (Or.inl rfl) (ci_le_n)))) (ih _ _ _ H)
def b_X12_deal_62 (r_7 : Int32 → ci_H → Option (Int32 × ci_H)) (r_17 : Int32 → ci_H → Option (Int32 × ci_H)) (l0 : Nat) (l1 : Int32) (l2 : Int32) (s0 : Nat) (s1 : Int32) (s2 : Int32)  (h : ci_H) : Option (Int32 × ci_H) := (wI h s0 s1 s2).bind fun h1 => r_17 (l2 + 1) h1
set_option maxHeartbeats 4000000 in
set_option maxRecDepth 20000 in
theorem eb_X12_deal_62 {xs : Nat → Int32} {N d : Nat} {nx : ci_N} {r_7 : Int32 → ci_H → Option (Int32 × ci_H)} {r_17 : Int32 → ci_H → Option (Int32 × ci_H)} {l0 : Nat} {l1 : Int32} {l2 : Int32} {s0 : Nat} {s1 : Int32} {s2 : Int32} (hd : 105 ≤ d) (h_7 : ∀ (l1 : Int32) (h : ci_H) (r : Int32 × ci_H), r_7 l1 h = some r → Ev xs N (d + 1) 257 7 [.ref l0, .int l1, ci_junk] [] h nx (oI r nx)) (h_17 : ∀ (l2 : Int32) (h : ci_H) (r : Int32 × ci_H), r_17 l2 h = some r → Ev xs N (d + 1) 257 17 [.ref l0, .int l1, .int l2] [] h nx (oI r nx)) {h : ci_H} {r : Int32 × ci_H} (H : b_X12_deal_62 r_7 r_17 l0 l1 l2 s0 s1 s2 h = some r) : Ev xs N (d + 1) 257 62 [.ref l0, .int l1, .int l2] [.int s2, .int s1, .ref s0] h nx (oI r nx) := by
  unfold b_X12_deal_62 at H
  obtain ⟨h1, eh1, H⟩ := Option.bind_eq_some_iff.mp H
  refine ev_5 hc_X12_deal (fe_X12_deal (pc := 62) rfl) (wI_as eh1) ?_
  refine ev_go hc_X12_deal (k := 2) (pc' := 17) (L' := [.ref l0, .int l1, .int (l2 + 1)]) (S' := []) rfl ?_
  exact Ev.weak (ci_le_c (Or.inr rfl) (ci_le_c (Or.inr rfl) (ci_le_c (Or.inr rfl) (ci_le_n)))) (h_17 _ _ _ H)
def b_X12_deal_61 (r_7 : Int32 → ci_H → Option (Int32 × ci_H)) (r_17 : Int32 → ci_H → Option (Int32 × ci_H)) (l0 : Nat) (l1 : Int32) (l2 : Int32) (s0 : Nat) (s1 : Int32)  (h : ci_H) : Option (Int32 × ci_H) := b_X12_deal_62 r_7 r_17 l0 l1 l2 s0 s1 ((-1)) h
set_option maxHeartbeats 4000000 in
set_option maxRecDepth 20000 in
theorem eb_X12_deal_61 {xs : Nat → Int32} {N d : Nat} {nx : ci_N} {r_7 : Int32 → ci_H → Option (Int32 × ci_H)} {r_17 : Int32 → ci_H → Option (Int32 × ci_H)} {l0 : Nat} {l1 : Int32} {l2 : Int32} {s0 : Nat} {s1 : Int32} (hd : 105 ≤ d) (h_7 : ∀ (l1 : Int32) (h : ci_H) (r : Int32 × ci_H), r_7 l1 h = some r → Ev xs N (d + 1) 257 7 [.ref l0, .int l1, ci_junk] [] h nx (oI r nx)) (h_17 : ∀ (l2 : Int32) (h : ci_H) (r : Int32 × ci_H), r_17 l2 h = some r → Ev xs N (d + 1) 257 17 [.ref l0, .int l1, .int l2] [] h nx (oI r nx)) {h : ci_H} {r : Int32 × ci_H} (H : b_X12_deal_61 r_7 r_17 l0 l1 l2 s0 s1 h = some r) : Ev xs N (d + 1) 257 61 [.ref l0, .int l1, .int l2] [.int s1, .ref s0] h nx (oI r nx) := by
  unfold b_X12_deal_61 at H
  refine ev_go hc_X12_deal (k := 1) (pc' := 62) (L' := [.ref l0, .int l1, .int l2]) (S' := [.int ((-1)), .int s1, .ref s0]) rfl ?_
  exact Ev.weak (ci_le_c (Or.inr rfl) (ci_le_c (Or.inr rfl) (ci_le_c (Or.inr rfl) (ci_le_n)))) (eb_X12_deal_62 hd h_7 h_17 H)
def b_X12_deal_17 (r_7 : Int32 → ci_H → Option (Int32 × ci_H)) (l0 : Nat) (l1 : Int32) : Nat → Int32 → ci_H → Option (Int32 × ci_H)
  | 0, _, _ => none
  | n + 1, l2, h => (gI h l0 12 2).bind fun v1 => if v1 ≤ l2 then (r_7 (l1 + 1) h) else ((gR h l0 12 31).bind fun v3 => (F_X12_isNobodys l0 l2 h).bind fun q4 => if q4.1 = 0 then (b_X12_deal_61 r_7 (fun x0 x1 => b_X12_deal_17 r_7 l0 l1 n x0 x1) l0 l1 l2 v3 ((12 * l1) + l2) q4.2) else ((F_X12_wouldBreak l0 l1 l2 q4.2).bind fun q6 => if q6.1 = 0 then ((F_X12_worthOf l0 l2 l1 q6.2).bind fun q8 => b_X12_deal_62 r_7 (fun x0 x1 => b_X12_deal_17 r_7 l0 l1 n x0 x1) l0 l1 l2 v3 ((12 * l1) + l2) q8.1 q8.2) else (b_X12_deal_61 r_7 (fun x0 x1 => b_X12_deal_17 r_7 l0 l1 n x0 x1) l0 l1 l2 v3 ((12 * l1) + l2) q6.2)))
set_option maxHeartbeats 4000000 in
set_option maxRecDepth 20000 in
theorem eb_X12_deal_17 {xs : Nat → Int32} {N d : Nat} {nx : ci_N} {r_7 : Int32 → ci_H → Option (Int32 × ci_H)} {l0 : Nat} {l1 : Int32} (hd : 105 ≤ d) (h_7 : ∀ (l1 : Int32) (h : ci_H) (r : Int32 × ci_H), r_7 l1 h = some r → Ev xs N (d + 1) 257 7 [.ref l0, .int l1, ci_junk] [] h nx (oI r nx)) : ∀ (n : Nat) (l2 : Int32) (h : ci_H) (r : Int32 × ci_H), b_X12_deal_17 r_7 l0 l1 n l2 h = some r → Ev xs N (d + 1) 257 17 [.ref l0, .int l1, .int l2] [] h nx (oI r nx) := by
  intro n
  induction n with
  | zero => intro l2 h r H; unfold b_X12_deal_17 at H; cases H
  | succ n ih =>
    intro l2 h r H
    unfold b_X12_deal_17 at H
    refine ev_go hc_X12_deal (k := 2) (pc' := 19) (L' := [.ref l0, .int l1, .int l2]) (S' := [.ref l0, .int l2]) rfl ?_
    obtain ⟨v1, ev1, H⟩ := Option.bind_eq_some_iff.mp H
    refine ev_4 hc_X12_deal (fe_X12_deal (pc := 19) rfl) (gI_gf ev1) ?_
    by_cases c2 : v1 ≤ l2
    · rw [if_pos c2] at H
      refine ev_bt hc_X12_deal (fe_X12_deal (pc := 22) rfl) rfl c2 ?_
      refine ev_go hc_X12_deal (k := 2) (pc' := 7) (L' := [.ref l0, .int (l1 + 1), .int l2]) (S' := []) rfl ?_
      exact Ev.weak (ci_le_c (Or.inr rfl) (ci_le_c (Or.inr rfl) (ci_le_c (Or.inl rfl) (ci_le_n)))) (h_7 _ _ _ H)
    · rw [if_neg c2] at H
      refine ev_bf hc_X12_deal (fe_X12_deal (pc := 22) rfl) rfl c2 ?_
      refine ev_go hc_X12_deal (k := 1) (pc' := 26) (L' := [.ref l0, .int l1, .int l2]) (S' := [.ref l0]) rfl ?_
      obtain ⟨v3, ev3, H⟩ := Option.bind_eq_some_iff.mp H
      refine ev_4 hc_X12_deal (fe_X12_deal (pc := 26) rfl) (gR_gf ev3) ?_
      refine ev_go hc_X12_deal (k := 7) (pc' := 37) (L' := [.ref l0, .int l1, .int l2]) (S' := [.int l2, .ref l0, .int ((12 * l1) + l2), .ref v3]) rfl ?_
      obtain ⟨q4, eq4, H⟩ := Option.bind_eq_some_iff.mp H
      refine ev_call (vs := [.ref l0, .int l2]) (rest := [.int ((12 * l1) + l2), .ref v3]) (q := q_X12_isNobodys) hc_X12_deal (Or.inr rfl) (fe_X12_deal (pc := 37) rfl) ms_219 rfl rfl (Nat.le_of_ble_eq_true rfl) (kO_recv (K_X12_isNobodys eq4)) (E_X12_isNobodys eq4 (by omega)) rfl ?_
      show Ev xs N (d + 1) 257 40 [.ref l0, .int l1, .int l2] [.int q4.1, .int ((12 * l1) + l2), .ref v3] q4.2 nx _
      by_cases c5 : q4.1 = 0
      · rw [if_pos c5] at H
        refine ev_bt hc_X12_deal (fe_X12_deal (pc := 40) rfl) rfl c5 ?_
        exact Ev.weak (ci_le_c (Or.inr rfl) (ci_le_c (Or.inr rfl) (ci_le_c (Or.inr rfl) (ci_le_n)))) (eb_X12_deal_61 hd h_7 ih H)
      · rw [if_neg c5] at H
        refine ev_bf hc_X12_deal (fe_X12_deal (pc := 40) rfl) rfl c5 ?_
        refine ev_go hc_X12_deal (k := 3) (pc' := 46) (L' := [.ref l0, .int l1, .int l2]) (S' := [.int l2, .int l1, .ref l0, .int ((12 * l1) + l2), .ref v3]) rfl ?_
        obtain ⟨q6, eq6, H⟩ := Option.bind_eq_some_iff.mp H
        refine ev_call (vs := [.ref l0, .int l1, .int l2]) (rest := [.int ((12 * l1) + l2), .ref v3]) (q := q_X12_wouldBreak) hc_X12_deal (Or.inr rfl) (fe_X12_deal (pc := 46) rfl) ms_220 rfl rfl (Nat.le_of_ble_eq_true rfl) (kO_recv (K_X12_wouldBreak eq6)) (E_X12_wouldBreak eq6 (by omega)) rfl ?_
        show Ev xs N (d + 1) 257 49 [.ref l0, .int l1, .int l2] [.int q6.1, .int ((12 * l1) + l2), .ref v3] q6.2 nx _
        by_cases c7 : q6.1 = 0
        · rw [if_pos c7] at H
          refine ev_bt hc_X12_deal (fe_X12_deal (pc := 49) rfl) rfl c7 ?_
          refine ev_go hc_X12_deal (k := 3) (pc' := 55) (L' := [.ref l0, .int l1, .int l2]) (S' := [.int l1, .int l2, .ref l0, .int ((12 * l1) + l2), .ref v3]) rfl ?_
          obtain ⟨q8, eq8, H⟩ := Option.bind_eq_some_iff.mp H
          refine ev_call (vs := [.ref l0, .int l2, .int l1]) (rest := [.int ((12 * l1) + l2), .ref v3]) (q := q_X12_worthOf) hc_X12_deal (Or.inr rfl) (fe_X12_deal (pc := 55) rfl) ms_208 rfl rfl (Nat.le_of_ble_eq_true rfl) (kO_recv (K_X12_worthOf eq8)) (E_X12_worthOf eq8 (by omega)) rfl ?_
          show Ev xs N (d + 1) 257 58 [.ref l0, .int l1, .int l2] [.int q8.1, .int ((12 * l1) + l2), .ref v3] q8.2 nx _
          refine ev_go hc_X12_deal (k := 1) (pc' := 62) (L' := [.ref l0, .int l1, .int l2]) (S' := [.int q8.1, .int ((12 * l1) + l2), .ref v3]) rfl ?_
          exact Ev.weak (ci_le_c (Or.inr rfl) (ci_le_c (Or.inr rfl) (ci_le_c (Or.inr rfl) (ci_le_n)))) (eb_X12_deal_62 hd h_7 ih H)
        · rw [if_neg c7] at H
          refine ev_bf hc_X12_deal (fe_X12_deal (pc := 49) rfl) rfl c7 ?_
          exact Ev.weak (ci_le_c (Or.inr rfl) (ci_le_c (Or.inr rfl) (ci_le_c (Or.inr rfl) (ci_le_n)))) (eb_X12_deal_61 hd h_7 ih H)
def b_X12_deal_7 (l0 : Nat) : Nat → Int32 → ci_H → Option (Int32 × ci_H)
  | 0, _, _ => none
  | n + 1, l1, h => (gI h l0 12 1).bind fun v1 => if v1 ≤ l1 then ((pF h l0 12 30 (.int ((-1)))).bind fun h3 => (F_X12_goDeal l0 0 0 0 h3).bind fun h4 => (pF h4 l0 12 10 (.int 0)).bind fun h5 => b_X12_deal_94 l0 bigN 0 h5) else (b_X12_deal_17 (fun x0 x1 => b_X12_deal_7 l0 n x0 x1) l0 l1 bigN 0 h)
set_option maxHeartbeats 4000000 in
set_option maxRecDepth 20000 in
theorem eb_X12_deal_7 {xs : Nat → Int32} {N d : Nat} {nx : ci_N} {l0 : Nat} (hd : 105 ≤ d) : ∀ (n : Nat) (l1 : Int32) (h : ci_H) (r : Int32 × ci_H), b_X12_deal_7 l0 n l1 h = some r → Ev xs N (d + 1) 257 7 [.ref l0, .int l1, ci_junk] [] h nx (oI r nx) := by
  intro n
  induction n with
  | zero => intro l1 h r H; unfold b_X12_deal_7 at H; cases H
  | succ n ih =>
    intro l1 h r H
    unfold b_X12_deal_7 at H
    refine ev_go hc_X12_deal (k := 2) (pc' := 9) (L' := [.ref l0, .int l1, ci_junk]) (S' := [.ref l0, .int l1]) rfl ?_
    obtain ⟨v1, ev1, H⟩ := Option.bind_eq_some_iff.mp H
    refine ev_4 hc_X12_deal (fe_X12_deal (pc := 9) rfl) (gI_gf ev1) ?_
    by_cases c2 : v1 ≤ l1
    · rw [if_pos c2] at H
      refine ev_bt hc_X12_deal (fe_X12_deal (pc := 12) rfl) rfl c2 ?_
      refine ev_go hc_X12_deal (k := 2) (pc' := 77) (L' := [.ref l0, .int l1, ci_junk]) (S' := [.int ((-1)), .ref l0]) rfl ?_
      obtain ⟨h3, eh3, H⟩ := Option.bind_eq_some_iff.mp H
      refine ev_5 hc_X12_deal (fe_X12_deal (pc := 77) rfl) (pF_pf eh3) ?_
      refine ev_go hc_X12_deal (k := 4) (pc' := 84) (L' := [.ref l0, .int l1, ci_junk]) (S' := [.int 0, .int 0, .int 0, .ref l0]) rfl ?_
      obtain ⟨h4, eh4, H⟩ := Option.bind_eq_some_iff.mp H
      refine ev_call (vs := [.ref l0, .int 0, .int 0, .int 0]) (rest := []) (q := q_X12_goDeal) hc_X12_deal (Or.inr rfl) (fe_X12_deal (pc := 84) rfl) ms_256 rfl rfl (Nat.le_of_ble_eq_true rfl) (kO_recv (K_X12_goDeal eh4)) (E_X12_goDeal eh4 (by omega)) rfl ?_
      show Ev xs N (d + 1) 257 87 [.ref l0, .int l1, ci_junk] [] h4 nx _
      refine ev_go hc_X12_deal (k := 2) (pc' := 89) (L' := [.ref l0, .int l1, ci_junk]) (S' := [.int 0, .ref l0]) rfl ?_
      obtain ⟨h5, eh5, H⟩ := Option.bind_eq_some_iff.mp H
      refine ev_5 hc_X12_deal (fe_X12_deal (pc := 89) rfl) (pF_pf eh5) ?_
      refine ev_go hc_X12_deal (k := 2) (pc' := 94) (L' := [.ref l0, .int 0, ci_junk]) (S' := []) rfl ?_
      exact Ev.weak (ci_le_c (Or.inr rfl) (ci_le_c (Or.inr rfl) (ci_le_c (Or.inl rfl) (ci_le_n)))) (eb_X12_deal_94 hd bigN _ _ _ H)
    · rw [if_neg c2] at H
      refine ev_bf hc_X12_deal (fe_X12_deal (pc := 12) rfl) rfl c2 ?_
      refine ev_go hc_X12_deal (k := 2) (pc' := 17) (L' := [.ref l0, .int l1, .int 0]) (S' := []) rfl ?_
      exact Ev.weak (ci_le_c (Or.inr rfl) (ci_le_c (Or.inr rfl) (ci_le_c (Or.inr rfl) (ci_le_n)))) (eb_X12_deal_17 hd ih bigN _ _ _ H)
def F_X12_deal (a0 : Nat) (h : ci_H) : Option (Int32 × ci_H) := if kO h a0 = some 12 then ((pF h a0 12 11 (.int 0)).bind fun h1 => b_X12_deal_7 a0 bigN 0 h1) else none
theorem K_X12_deal {a0 : Nat} {h : ci_H} {r : Int32 × ci_H} (H : F_X12_deal a0 h = some r) : kO h a0 = some 12 := by
  unfold F_X12_deal at H
  by_cases c : kO h a0 = some 12
  · exact c
  · rw [if_neg c] at H; cases H
set_option maxHeartbeats 4000000 in
set_option maxRecDepth 20000 in
theorem E_X12_deal {xs : Nat → Int32} {N d : Nat} {nx : ci_N} {a0 : Nat} {h : ci_H} {r : Int32 × ci_H} (H : F_X12_deal a0 h = some r) (hd : 106 ≤ d) : Ev xs N d 257 0 (ci_entry [.ref a0] 3) [] h nx (oI r nx) := by
  obtain ⟨d, rfl⟩ : ∃ d2, d = d2 + 1 := ⟨d - 1, by omega⟩
  have hd : 105 ≤ d := by omega
  unfold F_X12_deal at H
  by_cases ck : kO h a0 = some 12
  · rw [if_pos ck] at H
    show Ev xs N (d + 1) 257 0 [.ref a0, ci_junk, ci_junk] [] h nx _
    refine ev_go hc_X12_deal (k := 2) (pc' := 2) (L' := [.ref a0, ci_junk, ci_junk]) (S' := [.int 0, .ref a0]) rfl ?_
    obtain ⟨h1, eh1, H⟩ := Option.bind_eq_some_iff.mp H
    refine ev_5 hc_X12_deal (fe_X12_deal (pc := 2) rfl) (pF_pf eh1) ?_
    refine ev_go hc_X12_deal (k := 2) (pc' := 7) (L' := [.ref a0, .int 0, ci_junk]) (S' := []) rfl ?_
    exact Ev.weak (ci_le_c (Or.inr rfl) (ci_le_c (Or.inr rfl) (ci_le_c (Or.inl rfl) (ci_le_n)))) (eb_X12_deal_7 hd bigN _ _ _ H)
  · rw [if_neg ck] at H; cases H
theorem hc_X12_vote : ci_code (ci_Ms 258) = k_X12_vote := rfl
theorem fe_X12_vote {pc : Nat} {w : Option ci_I} (h : (k_X12_vote)[pc]? = some w) : (k_X12_vote)[pc]? = some w := h
def b_X12_vote_90 (r_21 : Int32 → Int32 → Int32 → ci_H → Option (Int32 × ci_H)) (l0 : Nat) (l1 : Int32) (l2 : Int32) (l3 : Int32)  (h : ci_H) : Option (Int32 × ci_H) := r_21 l1 l2 (l3 + 1) h
set_option maxHeartbeats 4000000 in
set_option maxRecDepth 20000 in
theorem eb_X12_vote_90 {xs : Nat → Int32} {N d : Nat} {nx : ci_N} {r_21 : Int32 → Int32 → Int32 → ci_H → Option (Int32 × ci_H)} {l0 : Nat} {l1 : Int32} {l2 : Int32} {l3 : Int32} (hd : 3 ≤ d) (h_21 : ∀ (l1 : Int32) (l2 : Int32) (l3 : Int32) (h : ci_H) (r : Int32 × ci_H), r_21 l1 l2 l3 h = some r → Ev xs N (d + 1) 258 21 [.ref l0, .int l1, .int l2, .int l3, ci_junk, ci_junk] [] h nx (oI r nx)) {h : ci_H} {r : Int32 × ci_H} (H : b_X12_vote_90 r_21 l0 l1 l2 l3 h = some r) : Ev xs N (d + 1) 258 90 [.ref l0, .int l1, .int l2, .int l3, ci_junk, ci_junk] [] h nx (oI r nx) := by
  unfold b_X12_vote_90 at H
  refine ev_go hc_X12_vote (k := 2) (pc' := 21) (L' := [.ref l0, .int l1, .int l2, .int (l3 + 1), ci_junk, ci_junk]) (S' := []) rfl ?_
  exact Ev.weak (ci_le_c (Or.inr rfl) (ci_le_c (Or.inr rfl) (ci_le_c (Or.inr rfl) (ci_le_c (Or.inr rfl) (ci_le_c (Or.inl rfl) (ci_le_c (Or.inl rfl) (ci_le_n))))))) (h_21 _ _ _ _ _ H)
def b_X12_vote_67 (r_21 : Int32 → Int32 → Int32 → ci_H → Option (Int32 × ci_H)) (r_35 : Int32 → Int32 → ci_H → Option (Int32 × ci_H)) (l0 : Nat) (l1 : Int32) (l2 : Int32) (l3 : Int32) (l5 : Int32) (s0 : Int32) (s1 : Int32)  (h : ci_H) : Option (Int32 × ci_H) := r_35 (s0 + s1) (l5 + 1) h
set_option maxHeartbeats 4000000 in
set_option maxRecDepth 20000 in
theorem eb_X12_vote_67 {xs : Nat → Int32} {N d : Nat} {nx : ci_N} {r_21 : Int32 → Int32 → Int32 → ci_H → Option (Int32 × ci_H)} {r_35 : Int32 → Int32 → ci_H → Option (Int32 × ci_H)} {l0 : Nat} {l1 : Int32} {l2 : Int32} {l3 : Int32} {l5 : Int32} {s0 : Int32} {s1 : Int32} (hd : 3 ≤ d) (h_21 : ∀ (l1 : Int32) (l2 : Int32) (l3 : Int32) (h : ci_H) (r : Int32 × ci_H), r_21 l1 l2 l3 h = some r → Ev xs N (d + 1) 258 21 [.ref l0, .int l1, .int l2, .int l3, ci_junk, ci_junk] [] h nx (oI r nx)) (h_35 : ∀ (l4 : Int32) (l5 : Int32) (h : ci_H) (r : Int32 × ci_H), r_35 l4 l5 h = some r → Ev xs N (d + 1) 258 35 [.ref l0, .int l1, .int l2, .int l3, .int l4, .int l5] [] h nx (oI r nx)) {h : ci_H} {r : Int32 × ci_H} (H : b_X12_vote_67 r_21 r_35 l0 l1 l2 l3 l5 s0 s1 h = some r) : Ev xs N (d + 1) 258 67 [.ref l0, .int l1, .int l2, .int l3, ci_junk, .int l5] [.int s1, .int s0] h nx (oI r nx) := by
  unfold b_X12_vote_67 at H
  refine ev_go hc_X12_vote (k := 4) (pc' := 35) (L' := [.ref l0, .int l1, .int l2, .int l3, .int (s0 + s1), .int (l5 + 1)]) (S' := []) rfl ?_
  exact Ev.weak (ci_le_c (Or.inr rfl) (ci_le_c (Or.inr rfl) (ci_le_c (Or.inr rfl) (ci_le_c (Or.inr rfl) (ci_le_c (Or.inr rfl) (ci_le_c (Or.inr rfl) (ci_le_n))))))) (h_35 _ _ _ _ H)
def b_X12_vote_35 (r_21 : Int32 → Int32 → Int32 → ci_H → Option (Int32 × ci_H)) (l0 : Nat) (l1 : Int32) (l2 : Int32) (l3 : Int32) : Nat → Int32 → Int32 → ci_H → Option (Int32 × ci_H)
  | 0, _, _, _ => none
  | n + 1, l4, l5, h => (gI h l0 12 1).bind fun v1 => if v1 ≤ l5 then (if l2 < l4 then (b_X12_vote_90 r_21 l0 l3 l4 l3 h) else (b_X12_vote_90 r_21 l0 l1 l2 l3 h)) else ((gR h l0 12 0).bind fun v4 => (F_X12_breaks l0 v4 l5 h).bind fun q5 => if q5.1 = ((1 : Int32) <<< (l3 &&& 31)) then (b_X12_vote_67 r_21 (fun x0 x1 x2 => b_X12_vote_35 r_21 l0 l1 l2 l3 n x0 x1 x2) l0 l1 l2 l3 l5 l4 1 q5.2) else (b_X12_vote_67 r_21 (fun x0 x1 x2 => b_X12_vote_35 r_21 l0 l1 l2 l3 n x0 x1 x2) l0 l1 l2 l3 l5 l4 0 q5.2))
set_option maxHeartbeats 4000000 in
set_option maxRecDepth 20000 in
theorem eb_X12_vote_35 {xs : Nat → Int32} {N d : Nat} {nx : ci_N} {r_21 : Int32 → Int32 → Int32 → ci_H → Option (Int32 × ci_H)} {l0 : Nat} {l1 : Int32} {l2 : Int32} {l3 : Int32} (hd : 3 ≤ d) (h_21 : ∀ (l1 : Int32) (l2 : Int32) (l3 : Int32) (h : ci_H) (r : Int32 × ci_H), r_21 l1 l2 l3 h = some r → Ev xs N (d + 1) 258 21 [.ref l0, .int l1, .int l2, .int l3, ci_junk, ci_junk] [] h nx (oI r nx)) : ∀ (n : Nat) (l4 : Int32) (l5 : Int32) (h : ci_H) (r : Int32 × ci_H), b_X12_vote_35 r_21 l0 l1 l2 l3 n l4 l5 h = some r → Ev xs N (d + 1) 258 35 [.ref l0, .int l1, .int l2, .int l3, .int l4, .int l5] [] h nx (oI r nx) := by
  intro n
  induction n with
  | zero => intro l4 l5 h r H; unfold b_X12_vote_35 at H; cases H
  | succ n ih =>
    intro l4 l5 h r H
    unfold b_X12_vote_35 at H
    refine ev_go hc_X12_vote (k := 2) (pc' := 38) (L' := [.ref l0, .int l1, .int l2, .int l3, .int l4, .int l5]) (S' := [.ref l0, .int l5]) rfl ?_
    obtain ⟨v1, ev1, H⟩ := Option.bind_eq_some_iff.mp H
    refine ev_4 hc_X12_vote (fe_X12_vote (pc := 38) rfl) (gI_gf ev1) ?_
    by_cases c2 : v1 ≤ l5
    · rw [if_pos c2] at H
      refine ev_bt hc_X12_vote (fe_X12_vote (pc := 41) rfl) rfl c2 ?_
      refine ev_go hc_X12_vote (k := 2) (pc' := 79) (L' := [.ref l0, .int l1, .int l2, .int l3, .int l4, .int l5]) (S' := [.int l2, .int l4]) rfl ?_
      by_cases c3 : l2 < l4
      · rw [if_pos c3] at H
        refine ev_bt hc_X12_vote (fe_X12_vote (pc := 79) rfl) rfl c3 ?_
        refine ev_go hc_X12_vote (k := 4) (pc' := 90) (L' := [.ref l0, .int l3, .int l4, .int l3, .int l4, .int l5]) (S' := []) rfl ?_
        exact Ev.weak (ci_le_c (Or.inr rfl) (ci_le_c (Or.inr rfl) (ci_le_c (Or.inr rfl) (ci_le_c (Or.inr rfl) (ci_le_c (Or.inl rfl) (ci_le_c (Or.inl rfl) (ci_le_n))))))) (eb_X12_vote_90 hd h_21 H)
      · rw [if_neg c3] at H
        refine ev_bf hc_X12_vote (fe_X12_vote (pc := 79) rfl) rfl c3 ?_
        refine ev_go hc_X12_vote (k := 1) (pc' := 90) (L' := [.ref l0, .int l1, .int l2, .int l3, .int l4, .int l5]) (S' := []) rfl ?_
        exact Ev.weak (ci_le_c (Or.inr rfl) (ci_le_c (Or.inr rfl) (ci_le_c (Or.inr rfl) (ci_le_c (Or.inr rfl) (ci_le_c (Or.inl rfl) (ci_le_c (Or.inl rfl) (ci_le_n))))))) (eb_X12_vote_90 hd h_21 H)
    · rw [if_neg c2] at H
      refine ev_bf hc_X12_vote (fe_X12_vote (pc := 41) rfl) rfl c2 ?_
      refine ev_go hc_X12_vote (k := 3) (pc' := 48) (L' := [.ref l0, .int l1, .int l2, .int l3, .int l4, .int l5]) (S' := [.ref l0, .ref l0, .int l4]) rfl ?_
      obtain ⟨v4, ev4, H⟩ := Option.bind_eq_some_iff.mp H
      refine ev_4 hc_X12_vote (fe_X12_vote (pc := 48) rfl) (gR_gf ev4) ?_
      refine ev_go hc_X12_vote (k := 1) (pc' := 53) (L' := [.ref l0, .int l1, .int l2, .int l3, .int l4, .int l5]) (S' := [.int l5, .ref v4, .ref l0, .int l4]) rfl ?_
      obtain ⟨q5, eq5, H⟩ := Option.bind_eq_some_iff.mp H
      refine ev_call (vs := [.ref l0, .ref v4, .int l5]) (rest := [.int l4]) (q := q_X12_breaks) hc_X12_vote (Or.inr rfl) (fe_X12_vote (pc := 53) rfl) ms_206 rfl rfl (Nat.le_of_ble_eq_true rfl) (kO_recv (K_X12_breaks eq5)) (E_X12_breaks eq5 (by omega)) rfl ?_
      show Ev xs N (d + 1) 258 56 [.ref l0, .int l1, .int l2, .int l3, .int l4, .int l5] [.int q5.1, .int l4] q5.2 nx _
      refine ev_go hc_X12_vote (k := 3) (pc' := 59) (L' := [.ref l0, .int l1, .int l2, .int l3, .int l4, .int l5]) (S' := [.int ((1 : Int32) <<< (l3 &&& 31)), .int q5.1, .int l4]) rfl ?_
      by_cases c6 : q5.1 = ((1 : Int32) <<< (l3 &&& 31))
      · rw [if_pos c6] at H
        refine ev_bt hc_X12_vote (fe_X12_vote (pc := 59) rfl) rfl c6 ?_
        refine ev_go hc_X12_vote (k := 2) (pc' := 67) (L' := [.ref l0, .int l1, .int l2, .int l3, .int l4, .int l5]) (S' := [.int 1, .int l4]) rfl ?_
        exact Ev.weak (ci_le_c (Or.inr rfl) (ci_le_c (Or.inr rfl) (ci_le_c (Or.inr rfl) (ci_le_c (Or.inr rfl) (ci_le_c (Or.inl rfl) (ci_le_c (Or.inr rfl) (ci_le_n))))))) (eb_X12_vote_67 hd h_21 ih H)
      · rw [if_neg c6] at H
        refine ev_bf hc_X12_vote (fe_X12_vote (pc := 59) rfl) rfl c6 ?_
        refine ev_go hc_X12_vote (k := 1) (pc' := 67) (L' := [.ref l0, .int l1, .int l2, .int l3, .int l4, .int l5]) (S' := [.int 0, .int l4]) rfl ?_
        exact Ev.weak (ci_le_c (Or.inr rfl) (ci_le_c (Or.inr rfl) (ci_le_c (Or.inr rfl) (ci_le_c (Or.inr rfl) (ci_le_c (Or.inl rfl) (ci_le_c (Or.inr rfl) (ci_le_n))))))) (eb_X12_vote_67 hd h_21 ih H)
def b_X12_vote_21 (l0 : Nat) : Nat → Int32 → Int32 → Int32 → ci_H → Option (Int32 × ci_H)
  | 0, _, _, _, _ => none
  | n + 1, l1, l2, l3, h => (gI h l0 12 3).bind fun v1 => if v1 ≤ l3 then ((pF h l0 12 10 (.int 0)).bind fun h3 => (F_X12_tell l0 ((l2 : Int32).toInt64) h3).bind fun h4 => some (l1, h4)) else (b_X12_vote_35 (fun x0 x1 x2 x3 => b_X12_vote_21 l0 n x0 x1 x2 x3) l0 l1 l2 l3 bigN 0 0 h)
set_option maxHeartbeats 4000000 in
set_option maxRecDepth 20000 in
theorem eb_X12_vote_21 {xs : Nat → Int32} {N d : Nat} {nx : ci_N} {l0 : Nat} (hd : 3 ≤ d) : ∀ (n : Nat) (l1 : Int32) (l2 : Int32) (l3 : Int32) (h : ci_H) (r : Int32 × ci_H), b_X12_vote_21 l0 n l1 l2 l3 h = some r → Ev xs N (d + 1) 258 21 [.ref l0, .int l1, .int l2, .int l3, ci_junk, ci_junk] [] h nx (oI r nx) := by
  intro n
  induction n with
  | zero => intro l1 l2 l3 h r H; unfold b_X12_vote_21 at H; cases H
  | succ n ih =>
    intro l1 l2 l3 h r H
    unfold b_X12_vote_21 at H
    refine ev_go hc_X12_vote (k := 2) (pc' := 23) (L' := [.ref l0, .int l1, .int l2, .int l3, ci_junk, ci_junk]) (S' := [.ref l0, .int l3]) rfl ?_
    obtain ⟨v1, ev1, H⟩ := Option.bind_eq_some_iff.mp H
    refine ev_4 hc_X12_vote (fe_X12_vote (pc := 23) rfl) (gI_gf ev1) ?_
    by_cases c2 : v1 ≤ l3
    · rw [if_pos c2] at H
      refine ev_bt hc_X12_vote (fe_X12_vote (pc := 26) rfl) rfl c2 ?_
      refine ev_go hc_X12_vote (k := 2) (pc' := 98) (L' := [.ref l0, .int l1, .int l2, .int l3, ci_junk, ci_junk]) (S' := [.int 0, .ref l0]) rfl ?_
      obtain ⟨h3, eh3, H⟩ := Option.bind_eq_some_iff.mp H
      refine ev_5 hc_X12_vote (fe_X12_vote (pc := 98) rfl) (pF_pf eh3) ?_
      refine ev_go hc_X12_vote (k := 3) (pc' := 104) (L' := [.ref l0, .int l1, .int l2, .int l3, ci_junk, ci_junk]) (S' := [.long ((l2 : Int32).toInt64), .ref l0]) rfl ?_
      obtain ⟨h4, eh4, H⟩ := Option.bind_eq_some_iff.mp H
      refine ev_call (vs := [.ref l0, .long ((l2 : Int32).toInt64)]) (rest := []) (q := q_X12_tell) hc_X12_vote (Or.inr rfl) (fe_X12_vote (pc := 104) rfl) ms_173 rfl rfl (Nat.le_of_ble_eq_true rfl) (kO_recv (K_X12_tell eh4)) (E_X12_tell eh4 (by omega)) rfl ?_
      show Ev xs N (d + 1) 258 107 [.ref l0, .int l1, .int l2, .int l3, ci_junk, ci_junk] [] h4 nx _
      refine ev_go hc_X12_vote (k := 1) (pc' := 108) (L' := [.ref l0, .int l1, .int l2, .int l3, ci_junk, ci_junk]) (S' := [.int l1]) rfl ?_
      obtain rfl := Option.some.inj H
      exact ev_8 hc_X12_vote (fe_X12_vote (pc := 108) rfl) rfl
    · rw [if_neg c2] at H
      refine ev_bf hc_X12_vote (fe_X12_vote (pc := 26) rfl) rfl c2 ?_
      refine ev_go hc_X12_vote (k := 4) (pc' := 35) (L' := [.ref l0, .int l1, .int l2, .int l3, .int 0, .int 0]) (S' := []) rfl ?_
      exact Ev.weak (ci_le_c (Or.inr rfl) (ci_le_c (Or.inr rfl) (ci_le_c (Or.inr rfl) (ci_le_c (Or.inr rfl) (ci_le_c (Or.inr rfl) (ci_le_c (Or.inr rfl) (ci_le_n))))))) (eb_X12_vote_35 hd ih bigN _ _ _ _ H)
def F_X12_vote (a0 : Nat) (h : ci_H) : Option (Int32 × ci_H) := if kO h a0 = some 12 then ((pF h a0 12 11 (.int 0)).bind fun h1 => (gI h1 a0 12 3).bind fun v2 => if v2 = 0 then (some ((-2), h1)) else (b_X12_vote_21 a0 bigN 0 ((-1)) 0 h1)) else none
theorem K_X12_vote {a0 : Nat} {h : ci_H} {r : Int32 × ci_H} (H : F_X12_vote a0 h = some r) : kO h a0 = some 12 := by
  unfold F_X12_vote at H
  by_cases c : kO h a0 = some 12
  · exact c
  · rw [if_neg c] at H; cases H
set_option maxHeartbeats 4000000 in
set_option maxRecDepth 20000 in
theorem E_X12_vote {xs : Nat → Int32} {N d : Nat} {nx : ci_N} {a0 : Nat} {h : ci_H} {r : Int32 × ci_H} (H : F_X12_vote a0 h = some r) (hd : 4 ≤ d) : Ev xs N d 258 0 (ci_entry [.ref a0] 6) [] h nx (oI r nx) := by
  obtain ⟨d, rfl⟩ : ∃ d2, d = d2 + 1 := ⟨d - 1, by omega⟩
  have hd : 3 ≤ d := by omega
  unfold F_X12_vote at H
  by_cases ck : kO h a0 = some 12
  · rw [if_pos ck] at H
    show Ev xs N (d + 1) 258 0 [.ref a0, ci_junk, ci_junk, ci_junk, ci_junk, ci_junk] [] h nx _
    refine ev_go hc_X12_vote (k := 2) (pc' := 2) (L' := [.ref a0, ci_junk, ci_junk, ci_junk, ci_junk, ci_junk]) (S' := [.int 0, .ref a0]) rfl ?_
    obtain ⟨h1, eh1, H⟩ := Option.bind_eq_some_iff.mp H
    refine ev_5 hc_X12_vote (fe_X12_vote (pc := 2) rfl) (pF_pf eh1) ?_
    refine ev_go hc_X12_vote (k := 1) (pc' := 6) (L' := [.ref a0, ci_junk, ci_junk, ci_junk, ci_junk, ci_junk]) (S' := [.ref a0]) rfl ?_
    obtain ⟨v2, ev2, H⟩ := Option.bind_eq_some_iff.mp H
    refine ev_4 hc_X12_vote (fe_X12_vote (pc := 6) rfl) (gI_gf ev2) ?_
    by_cases c3 : v2 = 0
    · rw [if_pos c3] at H
      refine ev_bt hc_X12_vote (fe_X12_vote (pc := 9) rfl) rfl c3 ?_
      refine ev_go hc_X12_vote (k := 1) (pc' := 14) (L' := [.ref a0, ci_junk, ci_junk, ci_junk, ci_junk, ci_junk]) (S' := [.int ((-2))]) rfl ?_
      obtain rfl := Option.some.inj H
      exact ev_8 hc_X12_vote (fe_X12_vote (pc := 14) rfl) rfl
    · rw [if_neg c3] at H
      refine ev_bf hc_X12_vote (fe_X12_vote (pc := 9) rfl) rfl c3 ?_
      refine ev_go hc_X12_vote (k := 6) (pc' := 21) (L' := [.ref a0, .int 0, .int ((-1)), .int 0, ci_junk, ci_junk]) (S' := []) rfl ?_
      exact Ev.weak (ci_le_c (Or.inr rfl) (ci_le_c (Or.inr rfl) (ci_le_c (Or.inr rfl) (ci_le_c (Or.inr rfl) (ci_le_c (Or.inl rfl) (ci_le_c (Or.inl rfl) (ci_le_n))))))) (eb_X12_vote_21 hd bigN _ _ _ _ _ H)
  · rw [if_neg ck] at H; cases H
theorem hc_X12_canPay : ci_code (ci_Ms 259) = k_X12_canPay := rfl
theorem fe_X12_canPay {pc : Nat} {w : Option ci_I} (h : (k_X12_canPay)[pc]? = some w) : (k_X12_canPay)[pc]? = some w := h
def b_X12_canPay_12 (r_3 : Int32 → ci_H → Option (Int32 × ci_H)) (l0 : Int32) (l1 : Int32) (l2 : Int32) (l3 : Int32) : Nat → Int32 → ci_H → Option (Int32 × ci_H)
  | 0, _, _ => none
  | n + 1, l4, h => if 2 < l4 then (r_3 (l3 + 1) h) else (if ((l3 * l0) + (l4 * l1)) = l2 then (some (1, h)) else (b_X12_canPay_12 r_3 l0 l1 l2 l3 n (l4 + 1) h))
set_option maxHeartbeats 4000000 in
set_option maxRecDepth 20000 in
theorem eb_X12_canPay_12 {xs : Nat → Int32} {N d : Nat} {nx : ci_N} {r_3 : Int32 → ci_H → Option (Int32 × ci_H)} {l0 : Int32} {l1 : Int32} {l2 : Int32} {l3 : Int32} (h_3 : ∀ (l3 : Int32) (h : ci_H) (r : Int32 × ci_H), r_3 l3 h = some r → Ev xs N d 259 3 [.int l0, .int l1, .int l2, .int l3, ci_junk] [] h nx (oI r nx)) : ∀ (n : Nat) (l4 : Int32) (h : ci_H) (r : Int32 × ci_H), b_X12_canPay_12 r_3 l0 l1 l2 l3 n l4 h = some r → Ev xs N d 259 12 [.int l0, .int l1, .int l2, .int l3, .int l4] [] h nx (oI r nx) := by
  intro n
  induction n with
  | zero => intro l4 h r H; unfold b_X12_canPay_12 at H; cases H
  | succ n ih =>
    intro l4 h r H
    unfold b_X12_canPay_12 at H
    refine ev_go hc_X12_canPay (k := 2) (pc' := 15) (L' := [.int l0, .int l1, .int l2, .int l3, .int l4]) (S' := [.int 2, .int l4]) rfl ?_
    by_cases c1 : 2 < l4
    · rw [if_pos c1] at H
      refine ev_bt hc_X12_canPay (fe_X12_canPay (pc := 15) rfl) rfl c1 ?_
      refine ev_go hc_X12_canPay (k := 2) (pc' := 3) (L' := [.int l0, .int l1, .int l2, .int (l3 + 1), .int l4]) (S' := []) rfl ?_
      exact Ev.weak (ci_le_c (Or.inr rfl) (ci_le_c (Or.inr rfl) (ci_le_c (Or.inr rfl) (ci_le_c (Or.inr rfl) (ci_le_c (Or.inl rfl) (ci_le_n)))))) (h_3 _ _ _ H)
    · rw [if_neg c1] at H
      refine ev_bf hc_X12_canPay (fe_X12_canPay (pc := 15) rfl) rfl c1 ?_
      refine ev_go hc_X12_canPay (k := 8) (pc' := 27) (L' := [.int l0, .int l1, .int l2, .int l3, .int l4]) (S' := [.int l2, .int ((l3 * l0) + (l4 * l1))]) rfl ?_
      by_cases c2 : ((l3 * l0) + (l4 * l1)) = l2
      · rw [if_pos c2] at H
        refine ev_bt hc_X12_canPay (fe_X12_canPay (pc := 27) rfl) rfl c2 ?_
        refine ev_go hc_X12_canPay (k := 1) (pc' := 31) (L' := [.int l0, .int l1, .int l2, .int l3, .int l4]) (S' := [.int 1]) rfl ?_
        obtain rfl := Option.some.inj H
        exact ev_8z hc_X12_canPay (fe_X12_canPay (pc := 31) rfl) rfl (Or.inr rfl)
      · rw [if_neg c2] at H
        refine ev_bf hc_X12_canPay (fe_X12_canPay (pc := 27) rfl) rfl c2 ?_
        refine ev_go hc_X12_canPay (k := 2) (pc' := 12) (L' := [.int l0, .int l1, .int l2, .int l3, .int (l4 + 1)]) (S' := []) rfl ?_
        exact Ev.weak (ci_le_c (Or.inr rfl) (ci_le_c (Or.inr rfl) (ci_le_c (Or.inr rfl) (ci_le_c (Or.inr rfl) (ci_le_c (Or.inr rfl) (ci_le_n)))))) (ih _ _ _ H)
def b_X12_canPay_3 (l0 : Int32) (l1 : Int32) (l2 : Int32) : Nat → Int32 → ci_H → Option (Int32 × ci_H)
  | 0, _, _ => none
  | n + 1, l3, h => if 2 < l3 then (some (0, h)) else (b_X12_canPay_12 (fun x0 x1 => b_X12_canPay_3 l0 l1 l2 n x0 x1) l0 l1 l2 l3 bigN ((-2)) h)
set_option maxHeartbeats 4000000 in
set_option maxRecDepth 20000 in
theorem eb_X12_canPay_3 {xs : Nat → Int32} {N d : Nat} {nx : ci_N} {l0 : Int32} {l1 : Int32} {l2 : Int32} : ∀ (n : Nat) (l3 : Int32) (h : ci_H) (r : Int32 × ci_H), b_X12_canPay_3 l0 l1 l2 n l3 h = some r → Ev xs N d 259 3 [.int l0, .int l1, .int l2, .int l3, ci_junk] [] h nx (oI r nx) := by
  intro n
  induction n with
  | zero => intro l3 h r H; unfold b_X12_canPay_3 at H; cases H
  | succ n ih =>
    intro l3 h r H
    unfold b_X12_canPay_3 at H
    refine ev_go hc_X12_canPay (k := 2) (pc' := 5) (L' := [.int l0, .int l1, .int l2, .int l3, ci_junk]) (S' := [.int 2, .int l3]) rfl ?_
    by_cases c1 : 2 < l3
    · rw [if_pos c1] at H
      refine ev_bt hc_X12_canPay (fe_X12_canPay (pc := 5) rfl) rfl c1 ?_
      refine ev_go hc_X12_canPay (k := 1) (pc' := 45) (L' := [.int l0, .int l1, .int l2, .int l3, ci_junk]) (S' := [.int 0]) rfl ?_
      obtain rfl := Option.some.inj H
      exact ev_8z hc_X12_canPay (fe_X12_canPay (pc := 45) rfl) rfl (Or.inl rfl)
    · rw [if_neg c1] at H
      refine ev_bf hc_X12_canPay (fe_X12_canPay (pc := 5) rfl) rfl c1 ?_
      refine ev_go hc_X12_canPay (k := 2) (pc' := 12) (L' := [.int l0, .int l1, .int l2, .int l3, .int ((-2))]) (S' := []) rfl ?_
      exact Ev.weak (ci_le_c (Or.inr rfl) (ci_le_c (Or.inr rfl) (ci_le_c (Or.inr rfl) (ci_le_c (Or.inr rfl) (ci_le_c (Or.inr rfl) (ci_le_n)))))) (eb_X12_canPay_12 ih bigN _ _ _ H)
def F_X12_canPay (a0 : Int32) (a1 : Int32) (a2 : Int32) (h : ci_H) : Option (Int32 × ci_H) := b_X12_canPay_3 a0 a1 a2 bigN ((-2)) h
set_option maxHeartbeats 4000000 in
set_option maxRecDepth 20000 in
theorem E_X12_canPay {xs : Nat → Int32} {N d : Nat} {nx : ci_N} {a0 : Int32} {a1 : Int32} {a2 : Int32} {h : ci_H} {r : Int32 × ci_H} (H : F_X12_canPay a0 a1 a2 h = some r) (hd : 0 ≤ d) : Ev xs N d 259 0 (ci_entry [.int a0, .int a1, .int a2] 5) [] h nx (oI r nx) := by
  unfold F_X12_canPay at H
  show Ev xs N d 259 0 [.int a0, .int a1, .int a2, ci_junk, ci_junk] [] h nx _
  refine ev_go hc_X12_canPay (k := 2) (pc' := 3) (L' := [.int a0, .int a1, .int a2, .int ((-2)), ci_junk]) (S' := []) rfl ?_
  exact Ev.weak (ci_le_c (Or.inr rfl) (ci_le_c (Or.inr rfl) (ci_le_c (Or.inr rfl) (ci_le_c (Or.inr rfl) (ci_le_c (Or.inl rfl) (ci_le_n)))))) (eb_X12_canPay_3 bigN _ _ _ H)
theorem hc_X12_paysUpTo : ci_code (ci_Ms 260) = k_X12_paysUpTo := rfl
theorem fe_X12_paysUpTo {pc : Nat} {w : Option ci_I} (h : (k_X12_paysUpTo)[pc]? = some w) : (k_X12_paysUpTo)[pc]? = some w := h
def b_X12_paysUpTo_27 (r_5 : Int32 → Int32 → ci_H → Option (Int32 × ci_H)) (l0 : Int32) (l1 : Int32) (l2 : Int32) (l4 : Int32) (s0 : Int32) (s1 : Int32)  (h : ci_H) : Option (Int32 × ci_H) := r_5 (s0 + s1) (l4 + 1) h
set_option maxHeartbeats 4000000 in
set_option maxRecDepth 20000 in
theorem eb_X12_paysUpTo_27 {xs : Nat → Int32} {N d : Nat} {nx : ci_N} {r_5 : Int32 → Int32 → ci_H → Option (Int32 × ci_H)} {l0 : Int32} {l1 : Int32} {l2 : Int32} {l4 : Int32} {s0 : Int32} {s1 : Int32} (hd : 0 ≤ d) (h_5 : ∀ (l3 : Int32) (l4 : Int32) (h : ci_H) (r : Int32 × ci_H), r_5 l3 l4 h = some r → Ev xs N (d + 1) 260 5 [.int l0, .int l1, .int l2, .int l3, .int l4] [] h nx (oI r nx)) {h : ci_H} {r : Int32 × ci_H} (H : b_X12_paysUpTo_27 r_5 l0 l1 l2 l4 s0 s1 h = some r) : Ev xs N (d + 1) 260 27 [.int l0, .int l1, .int l2, ci_junk, .int l4] [.int s1, .int s0] h nx (oI r nx) := by
  unfold b_X12_paysUpTo_27 at H
  refine ev_go hc_X12_paysUpTo (k := 4) (pc' := 5) (L' := [.int l0, .int l1, .int l2, .int (s0 + s1), .int (l4 + 1)]) (S' := []) rfl ?_
  exact Ev.weak (ci_le_c (Or.inr rfl) (ci_le_c (Or.inr rfl) (ci_le_c (Or.inr rfl) (ci_le_c (Or.inr rfl) (ci_le_c (Or.inr rfl) (ci_le_n)))))) (h_5 _ _ _ _ H)
def b_X12_paysUpTo_5 (l0 : Int32) (l1 : Int32) (l2 : Int32) : Nat → Int32 → Int32 → ci_H → Option (Int32 × ci_H)
  | 0, _, _, _ => none
  | n + 1, l3, l4, h => if l2 < l4 then (some (l3, h)) else ((F_X12_canPay l0 l1 l4 h).bind fun q2 => if q2.1 = 0 then (b_X12_paysUpTo_27 (fun x0 x1 x2 => b_X12_paysUpTo_5 l0 l1 l2 n x0 x1 x2) l0 l1 l2 l4 l3 0 q2.2) else (b_X12_paysUpTo_27 (fun x0 x1 x2 => b_X12_paysUpTo_5 l0 l1 l2 n x0 x1 x2) l0 l1 l2 l4 l3 1 q2.2))
set_option maxHeartbeats 4000000 in
set_option maxRecDepth 20000 in
theorem eb_X12_paysUpTo_5 {xs : Nat → Int32} {N d : Nat} {nx : ci_N} {l0 : Int32} {l1 : Int32} {l2 : Int32} (hd : 0 ≤ d) : ∀ (n : Nat) (l3 : Int32) (l4 : Int32) (h : ci_H) (r : Int32 × ci_H), b_X12_paysUpTo_5 l0 l1 l2 n l3 l4 h = some r → Ev xs N (d + 1) 260 5 [.int l0, .int l1, .int l2, .int l3, .int l4] [] h nx (oI r nx) := by
  intro n
  induction n with
  | zero => intro l3 l4 h r H; unfold b_X12_paysUpTo_5 at H; cases H
  | succ n ih =>
    intro l3 l4 h r H
    unfold b_X12_paysUpTo_5 at H
    refine ev_go hc_X12_paysUpTo (k := 2) (pc' := 8) (L' := [.int l0, .int l1, .int l2, .int l3, .int l4]) (S' := [.int l2, .int l4]) rfl ?_
    by_cases c1 : l2 < l4
    · rw [if_pos c1] at H
      refine ev_bt hc_X12_paysUpTo (fe_X12_paysUpTo (pc := 8) rfl) rfl c1 ?_
      refine ev_go hc_X12_paysUpTo (k := 1) (pc' := 36) (L' := [.int l0, .int l1, .int l2, .int l3, .int l4]) (S' := [.int l3]) rfl ?_
      obtain rfl := Option.some.inj H
      exact ev_8 hc_X12_paysUpTo (fe_X12_paysUpTo (pc := 36) rfl) rfl
    · rw [if_neg c1] at H
      refine ev_bf hc_X12_paysUpTo (fe_X12_paysUpTo (pc := 8) rfl) rfl c1 ?_
      refine ev_go hc_X12_paysUpTo (k := 4) (pc' := 16) (L' := [.int l0, .int l1, .int l2, .int l3, .int l4]) (S' := [.int l4, .int l1, .int l0, .int l3]) rfl ?_
      obtain ⟨q2, eq2, H⟩ := Option.bind_eq_some_iff.mp H
      refine ev_call (vs := [.int l0, .int l1, .int l4]) (rest := [.int l3]) (q := q_X12_canPay) hc_X12_paysUpTo (Or.inl rfl) (fe_X12_paysUpTo (pc := 16) rfl) ms_259 rfl rfl (Nat.le_of_ble_eq_true rfl) rfl (E_X12_canPay eq2 (by omega)) rfl ?_
      show Ev xs N (d + 1) 260 19 [.int l0, .int l1, .int l2, .int l3, .int l4] [.int q2.1, .int l3] q2.2 nx _
      by_cases c3 : q2.1 = 0
      · rw [if_pos c3] at H
        refine ev_bt hc_X12_paysUpTo (fe_X12_paysUpTo (pc := 19) rfl) rfl c3 ?_
        refine ev_go hc_X12_paysUpTo (k := 1) (pc' := 27) (L' := [.int l0, .int l1, .int l2, .int l3, .int l4]) (S' := [.int 0, .int l3]) rfl ?_
        exact Ev.weak (ci_le_c (Or.inr rfl) (ci_le_c (Or.inr rfl) (ci_le_c (Or.inr rfl) (ci_le_c (Or.inl rfl) (ci_le_c (Or.inr rfl) (ci_le_n)))))) (eb_X12_paysUpTo_27 hd ih H)
      · rw [if_neg c3] at H
        refine ev_bf hc_X12_paysUpTo (fe_X12_paysUpTo (pc := 19) rfl) rfl c3 ?_
        refine ev_go hc_X12_paysUpTo (k := 2) (pc' := 27) (L' := [.int l0, .int l1, .int l2, .int l3, .int l4]) (S' := [.int 1, .int l3]) rfl ?_
        exact Ev.weak (ci_le_c (Or.inr rfl) (ci_le_c (Or.inr rfl) (ci_le_c (Or.inr rfl) (ci_le_c (Or.inl rfl) (ci_le_c (Or.inr rfl) (ci_le_n)))))) (eb_X12_paysUpTo_27 hd ih H)
def F_X12_paysUpTo (a0 : Int32) (a1 : Int32) (a2 : Int32) (h : ci_H) : Option (Int32 × ci_H) := b_X12_paysUpTo_5 a0 a1 a2 bigN 0 1 h
set_option maxHeartbeats 4000000 in
set_option maxRecDepth 20000 in
theorem E_X12_paysUpTo {xs : Nat → Int32} {N d : Nat} {nx : ci_N} {a0 : Int32} {a1 : Int32} {a2 : Int32} {h : ci_H} {r : Int32 × ci_H} (H : F_X12_paysUpTo a0 a1 a2 h = some r) (hd : 1 ≤ d) : Ev xs N d 260 0 (ci_entry [.int a0, .int a1, .int a2] 5) [] h nx (oI r nx) := by
  obtain ⟨d, rfl⟩ : ∃ d2, d = d2 + 1 := ⟨d - 1, by omega⟩
  have hd : 0 ≤ d := by omega
  unfold F_X12_paysUpTo at H
  show Ev xs N (d + 1) 260 0 [.int a0, .int a1, .int a2, ci_junk, ci_junk] [] h nx _
  refine ev_go hc_X12_paysUpTo (k := 4) (pc' := 5) (L' := [.int a0, .int a1, .int a2, .int 0, .int 1]) (S' := []) rfl ?_
  exact Ev.weak (ci_le_c (Or.inr rfl) (ci_le_c (Or.inr rfl) (ci_le_c (Or.inr rfl) (ci_le_c (Or.inr rfl) (ci_le_c (Or.inr rfl) (ci_le_n)))))) (eb_X12_paysUpTo_5 hd bigN _ _ _ _ H)
