theorem hc_X12_pays : ci_code (ci_Ms 261) = k_X12_pays := rfl
theorem fe_X12_pays {pc : Nat} {w : Option ci_I} (h : (k_X12_pays)[pc]? = some w) : (k_X12_pays)[pc]? = some w := h
def b_X12_pays_62 (l0 : Nat) (l1 : Int32) (l2 : Int32) (l3 : Int32) (l4 : Int32)  (h : ci_H) : Option (Int32 × ci_H) := (pF h l0 12 10 (.int 0)).bind fun h1 => (F_X12_tell l0 ((l4 : Int32).toInt64) h1).bind fun h2 => (F_X12_paysUpTo l1 l2 l3 h2).bind fun q3 => some (q3.1, q3.2)
set_option maxHeartbeats 4000000 in
set_option maxRecDepth 20000 in
theorem eb_X12_pays_62 {xs : Nat → Int32} {N d : Nat} {nx : ci_N} {l0 : Nat} {l1 : Int32} {l2 : Int32} {l3 : Int32} {l4 : Int32} (hd : 1 ≤ d) {h : ci_H} {r : Int32 × ci_H} (H : b_X12_pays_62 l0 l1 l2 l3 l4 h = some r) : Ev xs N (d + 1) 261 62 [.ref l0, .int l1, .int l2, .int l3, .int l4] [] h nx (oI r nx) := by
  unfold b_X12_pays_62 at H
  refine ev_go hc_X12_pays (k := 2) (pc' := 64) (L' := [.ref l0, .int l1, .int l2, .int l3, .int l4]) (S' := [.int 0, .ref l0]) rfl ?_
  obtain ⟨h1, eh1, H⟩ := Option.bind_eq_some_iff.mp H
  refine ev_5 hc_X12_pays (fe_X12_pays (pc := 64) rfl) (pF_pf eh1) ?_
  refine ev_go hc_X12_pays (k := 3) (pc' := 71) (L' := [.ref l0, .int l1, .int l2, .int l3, .int l4]) (S' := [.long ((l4 : Int32).toInt64), .ref l0]) rfl ?_
  obtain ⟨h2, eh2, H⟩ := Option.bind_eq_some_iff.mp H
  refine ev_call (vs := [.ref l0, .long ((l4 : Int32).toInt64)]) (rest := []) (q := q_X12_tell) hc_X12_pays (Or.inr rfl) (fe_X12_pays (pc := 71) rfl) ms_173 rfl rfl (Nat.le_of_ble_eq_true rfl) (kO_recv (K_X12_tell eh2)) (E_X12_tell eh2 (by omega)) rfl ?_
  show Ev xs N (d + 1) 261 74 [.ref l0, .int l1, .int l2, .int l3, .int l4] [] h2 nx _
  refine ev_go hc_X12_pays (k := 3) (pc' := 77) (L' := [.ref l0, .int l1, .int l2, .int l3, .int l4]) (S' := [.int l3, .int l2, .int l1]) rfl ?_
  obtain ⟨q3, eq3, H⟩ := Option.bind_eq_some_iff.mp H
  refine ev_call (vs := [.int l1, .int l2, .int l3]) (rest := []) (q := q_X12_paysUpTo) hc_X12_pays (Or.inl rfl) (fe_X12_pays (pc := 77) rfl) ms_260 rfl rfl (Nat.le_of_ble_eq_true rfl) rfl (E_X12_paysUpTo eq3 (by omega)) rfl ?_
  show Ev xs N (d + 1) 261 80 [.ref l0, .int l1, .int l2, .int l3, .int l4] [.int q3.1] q3.2 nx _
  obtain rfl := Option.some.inj H
  exact ev_8 hc_X12_pays (fe_X12_pays (pc := 80) rfl) rfl
def b_X12_pays_40 (l0 : Nat) (l1 : Int32) (l2 : Int32) (l3 : Int32) : Nat → Int32 → ci_H → Option (Int32 × ci_H)
  | 0, _, _ => none
  | n + 1, l4, h => if l3 < l4 then (b_X12_pays_62 l0 l1 l2 l3 l4 h) else ((F_X12_canPay l1 l2 l4 h).bind fun q2 => if q2.1 = 0 then (b_X12_pays_62 l0 l1 l2 l3 l4 q2.2) else (b_X12_pays_40 l0 l1 l2 l3 n (l4 + 1) q2.2))
set_option maxHeartbeats 4000000 in
set_option maxRecDepth 20000 in
theorem eb_X12_pays_40 {xs : Nat → Int32} {N d : Nat} {nx : ci_N} {l0 : Nat} {l1 : Int32} {l2 : Int32} {l3 : Int32} (hd : 1 ≤ d) : ∀ (n : Nat) (l4 : Int32) (h : ci_H) (r : Int32 × ci_H), b_X12_pays_40 l0 l1 l2 l3 n l4 h = some r → Ev xs N (d + 1) 261 40 [.ref l0, .int l1, .int l2, .int l3, .int l4] [] h nx (oI r nx) := by
  intro n
  induction n with
  | zero => intro l4 h r H; unfold b_X12_pays_40 at H; cases H
  | succ n ih =>
    intro l4 h r H
    unfold b_X12_pays_40 at H
    refine ev_go hc_X12_pays (k := 2) (pc' := 43) (L' := [.ref l0, .int l1, .int l2, .int l3, .int l4]) (S' := [.int l3, .int l4]) rfl ?_
    by_cases c1 : l3 < l4
    · rw [if_pos c1] at H
      refine ev_bt hc_X12_pays (fe_X12_pays (pc := 43) rfl) rfl c1 ?_
      exact Ev.weak (ci_le_c (Or.inr rfl) (ci_le_c (Or.inr rfl) (ci_le_c (Or.inr rfl) (ci_le_c (Or.inr rfl) (ci_le_c (Or.inr rfl) (ci_le_n)))))) (eb_X12_pays_62 hd H)
    · rw [if_neg c1] at H
      refine ev_bf hc_X12_pays (fe_X12_pays (pc := 43) rfl) rfl c1 ?_
      refine ev_go hc_X12_pays (k := 3) (pc' := 50) (L' := [.ref l0, .int l1, .int l2, .int l3, .int l4]) (S' := [.int l4, .int l2, .int l1]) rfl ?_
      obtain ⟨q2, eq2, H⟩ := Option.bind_eq_some_iff.mp H
      refine ev_call (vs := [.int l1, .int l2, .int l4]) (rest := []) (q := q_X12_canPay) hc_X12_pays (Or.inl rfl) (fe_X12_pays (pc := 50) rfl) ms_259 rfl rfl (Nat.le_of_ble_eq_true rfl) rfl (E_X12_canPay eq2 (by omega)) rfl ?_
      show Ev xs N (d + 1) 261 53 [.ref l0, .int l1, .int l2, .int l3, .int l4] [.int q2.1] q2.2 nx _
      by_cases c3 : q2.1 = 0
      · rw [if_pos c3] at H
        refine ev_bt hc_X12_pays (fe_X12_pays (pc := 53) rfl) rfl c3 ?_
        exact Ev.weak (ci_le_c (Or.inr rfl) (ci_le_c (Or.inr rfl) (ci_le_c (Or.inr rfl) (ci_le_c (Or.inr rfl) (ci_le_c (Or.inr rfl) (ci_le_n)))))) (eb_X12_pays_62 hd H)
      · rw [if_neg c3] at H
        refine ev_bf hc_X12_pays (fe_X12_pays (pc := 53) rfl) rfl c3 ?_
        refine ev_go hc_X12_pays (k := 2) (pc' := 40) (L' := [.ref l0, .int l1, .int l2, .int l3, .int (l4 + 1)]) (S' := []) rfl ?_
        exact Ev.weak (ci_le_c (Or.inr rfl) (ci_le_c (Or.inr rfl) (ci_le_c (Or.inr rfl) (ci_le_c (Or.inr rfl) (ci_le_c (Or.inr rfl) (ci_le_n)))))) (ih _ _ _ H)
def F_X12_pays (a0 : Nat) (a1 : Int32) (a2 : Int32) (a3 : Int32) (h : ci_H) : Option (Int32 × ci_H) := if kO h a0 = some 12 then ((pF h a0 12 11 (.int 0)).bind fun h1 => (F_X12_in a1 1 50 h1).bind fun q2 => if q2.1 = 0 then (some ((-1), q2.2)) else ((F_X12_in a2 1 50 q2.2).bind fun q4 => if q4.1 = 0 then (some ((-1), q4.2)) else ((F_X12_in a3 1 99 q4.2).bind fun q6 => if q6.1 = 0 then (some ((-1), q6.2)) else (b_X12_pays_40 a0 a1 a2 a3 bigN 1 q6.2)))) else none
theorem K_X12_pays {a0 : Nat} {a1 : Int32} {a2 : Int32} {a3 : Int32} {h : ci_H} {r : Int32 × ci_H} (H : F_X12_pays a0 a1 a2 a3 h = some r) : kO h a0 = some 12 := by
  unfold F_X12_pays at H
  by_cases c : kO h a0 = some 12
  · exact c
  · rw [if_neg c] at H; cases H
set_option maxHeartbeats 4000000 in
set_option maxRecDepth 20000 in
theorem E_X12_pays {xs : Nat → Int32} {N d : Nat} {nx : ci_N} {a0 : Nat} {a1 : Int32} {a2 : Int32} {a3 : Int32} {h : ci_H} {r : Int32 × ci_H} (H : F_X12_pays a0 a1 a2 a3 h = some r) (hd : 2 ≤ d) : Ev xs N d 261 0 (ci_entry [.ref a0, .int a1, .int a2, .int a3] 5) [] h nx (oI r nx) := by
  obtain ⟨d, rfl⟩ : ∃ d2, d = d2 + 1 := ⟨d - 1, by omega⟩
  have hd : 1 ≤ d := by omega
  unfold F_X12_pays at H
  by_cases ck : kO h a0 = some 12
  · rw [if_pos ck] at H
    show Ev xs N (d + 1) 261 0 [.ref a0, .int a1, .int a2, .int a3, ci_junk] [] h nx _
    refine ev_go hc_X12_pays (k := 2) (pc' := 2) (L' := [.ref a0, .int a1, .int a2, .int a3, ci_junk]) (S' := [.int 0, .ref a0]) rfl ?_
    obtain ⟨h1, eh1, H⟩ := Option.bind_eq_some_iff.mp H
    refine ev_5 hc_X12_pays (fe_X12_pays (pc := 2) rfl) (pF_pf eh1) ?_
    refine ev_go hc_X12_pays (k := 3) (pc' := 9) (L' := [.ref a0, .int a1, .int a2, .int a3, ci_junk]) (S' := [.int 50, .int 1, .int a1]) rfl ?_
    obtain ⟨q2, eq2, H⟩ := Option.bind_eq_some_iff.mp H
    refine ev_call (vs := [.int a1, .int 1, .int 50]) (rest := []) (q := q_X12_in) hc_X12_pays (Or.inl rfl) (fe_X12_pays (pc := 9) rfl) ms_170 rfl rfl (Nat.le_of_ble_eq_true rfl) rfl (E_X12_in eq2 (by omega)) rfl ?_
    show Ev xs N (d + 1) 261 12 [.ref a0, .int a1, .int a2, .int a3, ci_junk] [.int q2.1] q2.2 nx _
    by_cases c3 : q2.1 = 0
    · rw [if_pos c3] at H
      refine ev_bt hc_X12_pays (fe_X12_pays (pc := 12) rfl) rfl c3 ?_
      refine ev_go hc_X12_pays (k := 1) (pc' := 36) (L' := [.ref a0, .int a1, .int a2, .int a3, ci_junk]) (S' := [.int ((-1))]) rfl ?_
      obtain rfl := Option.some.inj H
      exact ev_8 hc_X12_pays (fe_X12_pays (pc := 36) rfl) rfl
    · rw [if_neg c3] at H
      refine ev_bf hc_X12_pays (fe_X12_pays (pc := 12) rfl) rfl c3 ?_
      refine ev_go hc_X12_pays (k := 3) (pc' := 19) (L' := [.ref a0, .int a1, .int a2, .int a3, ci_junk]) (S' := [.int 50, .int 1, .int a2]) rfl ?_
      obtain ⟨q4, eq4, H⟩ := Option.bind_eq_some_iff.mp H
      refine ev_call (vs := [.int a2, .int 1, .int 50]) (rest := []) (q := q_X12_in) hc_X12_pays (Or.inl rfl) (fe_X12_pays (pc := 19) rfl) ms_170 rfl rfl (Nat.le_of_ble_eq_true rfl) rfl (E_X12_in eq4 (by omega)) rfl ?_
      show Ev xs N (d + 1) 261 22 [.ref a0, .int a1, .int a2, .int a3, ci_junk] [.int q4.1] q4.2 nx _
      by_cases c5 : q4.1 = 0
      · rw [if_pos c5] at H
        refine ev_bt hc_X12_pays (fe_X12_pays (pc := 22) rfl) rfl c5 ?_
        refine ev_go hc_X12_pays (k := 1) (pc' := 36) (L' := [.ref a0, .int a1, .int a2, .int a3, ci_junk]) (S' := [.int ((-1))]) rfl ?_
        obtain rfl := Option.some.inj H
        exact ev_8 hc_X12_pays (fe_X12_pays (pc := 36) rfl) rfl
      · rw [if_neg c5] at H
        refine ev_bf hc_X12_pays (fe_X12_pays (pc := 22) rfl) rfl c5 ?_
        refine ev_go hc_X12_pays (k := 3) (pc' := 29) (L' := [.ref a0, .int a1, .int a2, .int a3, ci_junk]) (S' := [.int 99, .int 1, .int a3]) rfl ?_
        obtain ⟨q6, eq6, H⟩ := Option.bind_eq_some_iff.mp H
        refine ev_call (vs := [.int a3, .int 1, .int 99]) (rest := []) (q := q_X12_in) hc_X12_pays (Or.inl rfl) (fe_X12_pays (pc := 29) rfl) ms_170 rfl rfl (Nat.le_of_ble_eq_true rfl) rfl (E_X12_in eq6 (by omega)) rfl ?_
        show Ev xs N (d + 1) 261 32 [.ref a0, .int a1, .int a2, .int a3, ci_junk] [.int q6.1] q6.2 nx _
        by_cases c7 : q6.1 = 0
        · rw [if_pos c7] at H
          refine ev_bt hc_X12_pays (fe_X12_pays (pc := 32) rfl) rfl c7 ?_
          refine ev_go hc_X12_pays (k := 1) (pc' := 36) (L' := [.ref a0, .int a1, .int a2, .int a3, ci_junk]) (S' := [.int ((-1))]) rfl ?_
          obtain rfl := Option.some.inj H
          exact ev_8 hc_X12_pays (fe_X12_pays (pc := 36) rfl) rfl
        · rw [if_neg c7] at H
          refine ev_bf hc_X12_pays (fe_X12_pays (pc := 32) rfl) rfl c7 ?_
          refine ev_go hc_X12_pays (k := 2) (pc' := 40) (L' := [.ref a0, .int a1, .int a2, .int a3, .int 1]) (S' := []) rfl ?_
          exact Ev.weak (ci_le_c (Or.inr rfl) (ci_le_c (Or.inr rfl) (ci_le_c (Or.inr rfl) (ci_le_c (Or.inr rfl) (ci_le_c (Or.inr rfl) (ci_le_n)))))) (eb_X12_pays_40 hd bigN _ _ _ H)
  · rw [if_neg ck] at H; cases H
theorem hc_X12_coins : ci_code (ci_Ms 262) = k_X12_coins := rfl
theorem fe_X12_coins {pc : Nat} {w : Option ci_I} (h : (k_X12_coins)[pc]? = some w) : (k_X12_coins)[pc]? = some w := h
def b_X12_coins_76 (r_27 : Int32 → Int32 → Int32 → Int32 → ci_H → Option (Int32 × ci_H)) (r_40 : Int32 → Int32 → Int32 → Int32 → ci_H → Option (Int32 × ci_H)) (l0 : Nat) (l1 : Int32) (l2 : Int32) (l3 : Int32) (l4 : Int32) (l5 : Int32) (l6 : Int32)  (h : ci_H) : Option (Int32 × ci_H) := r_40 l2 l3 l4 (l6 + 1) h
set_option maxHeartbeats 4000000 in
set_option maxRecDepth 20000 in
theorem eb_X12_coins_76 {xs : Nat → Int32} {N d : Nat} {nx : ci_N} {r_27 : Int32 → Int32 → Int32 → Int32 → ci_H → Option (Int32 × ci_H)} {r_40 : Int32 → Int32 → Int32 → Int32 → ci_H → Option (Int32 × ci_H)} {l0 : Nat} {l1 : Int32} {l2 : Int32} {l3 : Int32} {l4 : Int32} {l5 : Int32} {l6 : Int32} (hd : 1 ≤ d) (h_27 : ∀ (l2 : Int32) (l3 : Int32) (l4 : Int32) (l5 : Int32) (h : ci_H) (r : Int32 × ci_H), r_27 l2 l3 l4 l5 h = some r → Ev xs N (d + 1) 262 27 [.ref l0, .int l1, .int l2, .int l3, .int l4, .int l5, ci_junk, ci_junk] [] h nx (oI r nx)) (h_40 : ∀ (l2 : Int32) (l3 : Int32) (l4 : Int32) (l6 : Int32) (h : ci_H) (r : Int32 × ci_H), r_40 l2 l3 l4 l6 h = some r → Ev xs N (d + 1) 262 40 [.ref l0, .int l1, .int l2, .int l3, .int l4, .int l5, .int l6, ci_junk] [] h nx (oI r nx)) {h : ci_H} {r : Int32 × ci_H} (H : b_X12_coins_76 r_27 r_40 l0 l1 l2 l3 l4 l5 l6 h = some r) : Ev xs N (d + 1) 262 76 [.ref l0, .int l1, .int l2, .int l3, .int l4, .int l5, .int l6, ci_junk] [] h nx (oI r nx) := by
  unfold b_X12_coins_76 at H
  refine ev_go hc_X12_coins (k := 2) (pc' := 40) (L' := [.ref l0, .int l1, .int l2, .int l3, .int l4, .int l5, .int (l6 + 1), ci_junk]) (S' := []) rfl ?_
  exact Ev.weak (ci_le_c (Or.inr rfl) (ci_le_c (Or.inr rfl) (ci_le_c (Or.inr rfl) (ci_le_c (Or.inr rfl) (ci_le_c (Or.inr rfl) (ci_le_c (Or.inr rfl) (ci_le_c (Or.inr rfl) (ci_le_c (Or.inl rfl) (ci_le_n))))))))) (h_40 _ _ _ _ _ _ H)
def b_X12_coins_40 (r_27 : Int32 → Int32 → Int32 → Int32 → ci_H → Option (Int32 × ci_H)) (l0 : Nat) (l1 : Int32) (l5 : Int32) : Nat → Int32 → Int32 → Int32 → Int32 → ci_H → Option (Int32 × ci_H)
  | 0, _, _, _, _, _ => none
  | n + 1, l2, l3, l4, l6, h => if 30 < l6 then (r_27 l2 l3 l4 (l5 + 1) h) else ((F_X12_paysUpTo l5 l6 l1 h).bind fun q2 => if l2 < q2.1 then (b_X12_coins_76 r_27 (fun x0 x1 x2 x3 x4 => b_X12_coins_40 r_27 l0 l1 l5 n x0 x1 x2 x3 x4) l0 l1 q2.1 l5 l6 l5 l6 q2.2) else (b_X12_coins_76 r_27 (fun x0 x1 x2 x3 x4 => b_X12_coins_40 r_27 l0 l1 l5 n x0 x1 x2 x3 x4) l0 l1 l2 l3 l4 l5 l6 q2.2))
set_option maxHeartbeats 4000000 in
set_option maxRecDepth 20000 in
theorem eb_X12_coins_40 {xs : Nat → Int32} {N d : Nat} {nx : ci_N} {r_27 : Int32 → Int32 → Int32 → Int32 → ci_H → Option (Int32 × ci_H)} {l0 : Nat} {l1 : Int32} {l5 : Int32} (hd : 1 ≤ d) (h_27 : ∀ (l2 : Int32) (l3 : Int32) (l4 : Int32) (l5 : Int32) (h : ci_H) (r : Int32 × ci_H), r_27 l2 l3 l4 l5 h = some r → Ev xs N (d + 1) 262 27 [.ref l0, .int l1, .int l2, .int l3, .int l4, .int l5, ci_junk, ci_junk] [] h nx (oI r nx)) : ∀ (n : Nat) (l2 : Int32) (l3 : Int32) (l4 : Int32) (l6 : Int32) (h : ci_H) (r : Int32 × ci_H), b_X12_coins_40 r_27 l0 l1 l5 n l2 l3 l4 l6 h = some r → Ev xs N (d + 1) 262 40 [.ref l0, .int l1, .int l2, .int l3, .int l4, .int l5, .int l6, ci_junk] [] h nx (oI r nx) := by
  intro n
  induction n with
  | zero => intro l2 l3 l4 l6 h r H; unfold b_X12_coins_40 at H; cases H
  | succ n ih =>
    intro l2 l3 l4 l6 h r H
    unfold b_X12_coins_40 at H
    refine ev_go hc_X12_coins (k := 2) (pc' := 44) (L' := [.ref l0, .int l1, .int l2, .int l3, .int l4, .int l5, .int l6, ci_junk]) (S' := [.int 30, .int l6]) rfl ?_
    by_cases c1 : 30 < l6
    · rw [if_pos c1] at H
      refine ev_bt hc_X12_coins (fe_X12_coins (pc := 44) rfl) rfl c1 ?_
      refine ev_go hc_X12_coins (k := 2) (pc' := 27) (L' := [.ref l0, .int l1, .int l2, .int l3, .int l4, .int (l5 + 1), .int l6, ci_junk]) (S' := []) rfl ?_
      exact Ev.weak (ci_le_c (Or.inr rfl) (ci_le_c (Or.inr rfl) (ci_le_c (Or.inr rfl) (ci_le_c (Or.inr rfl) (ci_le_c (Or.inr rfl) (ci_le_c (Or.inr rfl) (ci_le_c (Or.inl rfl) (ci_le_c (Or.inl rfl) (ci_le_n))))))))) (h_27 _ _ _ _ _ _ H)
    · rw [if_neg c1] at H
      refine ev_bf hc_X12_coins (fe_X12_coins (pc := 44) rfl) rfl c1 ?_
      refine ev_go hc_X12_coins (k := 3) (pc' := 52) (L' := [.ref l0, .int l1, .int l2, .int l3, .int l4, .int l5, .int l6, ci_junk]) (S' := [.int l1, .int l6, .int l5]) rfl ?_
      obtain ⟨q2, eq2, H⟩ := Option.bind_eq_some_iff.mp H
      refine ev_call (vs := [.int l5, .int l6, .int l1]) (rest := []) (q := q_X12_paysUpTo) hc_X12_coins (Or.inl rfl) (fe_X12_coins (pc := 52) rfl) ms_260 rfl rfl (Nat.le_of_ble_eq_true rfl) rfl (E_X12_paysUpTo eq2 (by omega)) rfl ?_
      show Ev xs N (d + 1) 262 55 [.ref l0, .int l1, .int l2, .int l3, .int l4, .int l5, .int l6, ci_junk] [.int q2.1] q2.2 nx _
      refine ev_go hc_X12_coins (k := 3) (pc' := 60) (L' := [.ref l0, .int l1, .int l2, .int l3, .int l4, .int l5, .int l6, .int q2.1]) (S' := [.int l2, .int q2.1]) rfl ?_
      by_cases c3 : l2 < q2.1
      · rw [if_pos c3] at H
        refine ev_bt hc_X12_coins (fe_X12_coins (pc := 60) rfl) rfl c3 ?_
        refine ev_go hc_X12_coins (k := 6) (pc' := 76) (L' := [.ref l0, .int l1, .int q2.1, .int l5, .int l6, .int l5, .int l6, .int q2.1]) (S' := []) rfl ?_
        exact Ev.weak (ci_le_c (Or.inr rfl) (ci_le_c (Or.inr rfl) (ci_le_c (Or.inr rfl) (ci_le_c (Or.inr rfl) (ci_le_c (Or.inr rfl) (ci_le_c (Or.inr rfl) (ci_le_c (Or.inr rfl) (ci_le_c (Or.inl rfl) (ci_le_n))))))))) (eb_X12_coins_76 hd h_27 ih H)
      · rw [if_neg c3] at H
        refine ev_bf hc_X12_coins (fe_X12_coins (pc := 60) rfl) rfl c3 ?_
        refine ev_go hc_X12_coins (k := 1) (pc' := 76) (L' := [.ref l0, .int l1, .int l2, .int l3, .int l4, .int l5, .int l6, .int q2.1]) (S' := []) rfl ?_
        exact Ev.weak (ci_le_c (Or.inr rfl) (ci_le_c (Or.inr rfl) (ci_le_c (Or.inr rfl) (ci_le_c (Or.inr rfl) (ci_le_c (Or.inr rfl) (ci_le_c (Or.inr rfl) (ci_le_c (Or.inr rfl) (ci_le_c (Or.inl rfl) (ci_le_n))))))))) (eb_X12_coins_76 hd h_27 ih H)
def b_X12_coins_27 (l0 : Nat) (l1 : Int32) : Nat → Int32 → Int32 → Int32 → Int32 → ci_H → Option (Int32 × ci_H)
  | 0, _, _, _, _, _ => none
  | n + 1, l2, l3, l4, l5, h => if 30 < l5 then ((pF h l0 12 10 (.int 0)).bind fun h2 => (F_X12_tell l0 ((l3 : Int32).toInt64) h2).bind fun h3 => (F_X12_tell l0 ((l4 : Int32).toInt64) h3).bind fun h4 => some (l2, h4)) else (b_X12_coins_40 (fun x0 x1 x2 x3 x4 => b_X12_coins_27 l0 l1 n x0 x1 x2 x3 x4) l0 l1 l5 bigN l2 l3 l4 (l5 + 1) h)
set_option maxHeartbeats 4000000 in
set_option maxRecDepth 20000 in
theorem eb_X12_coins_27 {xs : Nat → Int32} {N d : Nat} {nx : ci_N} {l0 : Nat} {l1 : Int32} (hd : 1 ≤ d) : ∀ (n : Nat) (l2 : Int32) (l3 : Int32) (l4 : Int32) (l5 : Int32) (h : ci_H) (r : Int32 × ci_H), b_X12_coins_27 l0 l1 n l2 l3 l4 l5 h = some r → Ev xs N (d + 1) 262 27 [.ref l0, .int l1, .int l2, .int l3, .int l4, .int l5, ci_junk, ci_junk] [] h nx (oI r nx) := by
  intro n
  induction n with
  | zero => intro l2 l3 l4 l5 h r H; unfold b_X12_coins_27 at H; cases H
  | succ n ih =>
    intro l2 l3 l4 l5 h r H
    unfold b_X12_coins_27 at H
    refine ev_go hc_X12_coins (k := 2) (pc' := 31) (L' := [.ref l0, .int l1, .int l2, .int l3, .int l4, .int l5, ci_junk, ci_junk]) (S' := [.int 30, .int l5]) rfl ?_
    by_cases c1 : 30 < l5
    · rw [if_pos c1] at H
      refine ev_bt hc_X12_coins (fe_X12_coins (pc := 31) rfl) rfl c1 ?_
      refine ev_go hc_X12_coins (k := 2) (pc' := 90) (L' := [.ref l0, .int l1, .int l2, .int l3, .int l4, .int l5, ci_junk, ci_junk]) (S' := [.int 0, .ref l0]) rfl ?_
      obtain ⟨h2, eh2, H⟩ := Option.bind_eq_some_iff.mp H
      refine ev_5 hc_X12_coins (fe_X12_coins (pc := 90) rfl) (pF_pf eh2) ?_
      refine ev_go hc_X12_coins (k := 3) (pc' := 96) (L' := [.ref l0, .int l1, .int l2, .int l3, .int l4, .int l5, ci_junk, ci_junk]) (S' := [.long ((l3 : Int32).toInt64), .ref l0]) rfl ?_
      obtain ⟨h3, eh3, H⟩ := Option.bind_eq_some_iff.mp H
      refine ev_call (vs := [.ref l0, .long ((l3 : Int32).toInt64)]) (rest := []) (q := q_X12_tell) hc_X12_coins (Or.inr rfl) (fe_X12_coins (pc := 96) rfl) ms_173 rfl rfl (Nat.le_of_ble_eq_true rfl) (kO_recv (K_X12_tell eh3)) (E_X12_tell eh3 (by omega)) rfl ?_
      show Ev xs N (d + 1) 262 99 [.ref l0, .int l1, .int l2, .int l3, .int l4, .int l5, ci_junk, ci_junk] [] h3 nx _
      refine ev_go hc_X12_coins (k := 3) (pc' := 103) (L' := [.ref l0, .int l1, .int l2, .int l3, .int l4, .int l5, ci_junk, ci_junk]) (S' := [.long ((l4 : Int32).toInt64), .ref l0]) rfl ?_
      obtain ⟨h4, eh4, H⟩ := Option.bind_eq_some_iff.mp H
      refine ev_call (vs := [.ref l0, .long ((l4 : Int32).toInt64)]) (rest := []) (q := q_X12_tell) hc_X12_coins (Or.inr rfl) (fe_X12_coins (pc := 103) rfl) ms_173 rfl rfl (Nat.le_of_ble_eq_true rfl) (kO_recv (K_X12_tell eh4)) (E_X12_tell eh4 (by omega)) rfl ?_
      show Ev xs N (d + 1) 262 106 [.ref l0, .int l1, .int l2, .int l3, .int l4, .int l5, ci_junk, ci_junk] [] h4 nx _
      refine ev_go hc_X12_coins (k := 1) (pc' := 107) (L' := [.ref l0, .int l1, .int l2, .int l3, .int l4, .int l5, ci_junk, ci_junk]) (S' := [.int l2]) rfl ?_
      obtain rfl := Option.some.inj H
      exact ev_8 hc_X12_coins (fe_X12_coins (pc := 107) rfl) rfl
    · rw [if_neg c1] at H
      refine ev_bf hc_X12_coins (fe_X12_coins (pc := 31) rfl) rfl c1 ?_
      refine ev_go hc_X12_coins (k := 4) (pc' := 40) (L' := [.ref l0, .int l1, .int l2, .int l3, .int l4, .int l5, .int (l5 + 1), ci_junk]) (S' := []) rfl ?_
      exact Ev.weak (ci_le_c (Or.inr rfl) (ci_le_c (Or.inr rfl) (ci_le_c (Or.inr rfl) (ci_le_c (Or.inr rfl) (ci_le_c (Or.inr rfl) (ci_le_c (Or.inr rfl) (ci_le_c (Or.inr rfl) (ci_le_c (Or.inl rfl) (ci_le_n))))))))) (eb_X12_coins_40 hd ih bigN _ _ _ _ _ _ H)
def F_X12_coins (a0 : Nat) (a1 : Int32) (h : ci_H) : Option (Int32 × ci_H) := if kO h a0 = some 12 then ((pF h a0 12 11 (.int 0)).bind fun h1 => (F_X12_in a1 1 99 h1).bind fun q2 => if q2.1 = 0 then (some ((-1), q2.2)) else (b_X12_coins_27 a0 a1 bigN ((-1)) 0 0 1 q2.2)) else none
theorem K_X12_coins {a0 : Nat} {a1 : Int32} {h : ci_H} {r : Int32 × ci_H} (H : F_X12_coins a0 a1 h = some r) : kO h a0 = some 12 := by
  unfold F_X12_coins at H
  by_cases c : kO h a0 = some 12
  · exact c
  · rw [if_neg c] at H; cases H
set_option maxHeartbeats 4000000 in
set_option maxRecDepth 20000 in
theorem E_X12_coins {xs : Nat → Int32} {N d : Nat} {nx : ci_N} {a0 : Nat} {a1 : Int32} {h : ci_H} {r : Int32 × ci_H} (H : F_X12_coins a0 a1 h = some r) (hd : 2 ≤ d) : Ev xs N d 262 0 (ci_entry [.ref a0, .int a1] 8) [] h nx (oI r nx) := by
  obtain ⟨d, rfl⟩ : ∃ d2, d = d2 + 1 := ⟨d - 1, by omega⟩
  have hd : 1 ≤ d := by omega
  unfold F_X12_coins at H
  by_cases ck : kO h a0 = some 12
  · rw [if_pos ck] at H
    show Ev xs N (d + 1) 262 0 [.ref a0, .int a1, ci_junk, ci_junk, ci_junk, ci_junk, ci_junk, ci_junk] [] h nx _
    refine ev_go hc_X12_coins (k := 2) (pc' := 2) (L' := [.ref a0, .int a1, ci_junk, ci_junk, ci_junk, ci_junk, ci_junk, ci_junk]) (S' := [.int 0, .ref a0]) rfl ?_
    obtain ⟨h1, eh1, H⟩ := Option.bind_eq_some_iff.mp H
    refine ev_5 hc_X12_coins (fe_X12_coins (pc := 2) rfl) (pF_pf eh1) ?_
    refine ev_go hc_X12_coins (k := 3) (pc' := 9) (L' := [.ref a0, .int a1, ci_junk, ci_junk, ci_junk, ci_junk, ci_junk, ci_junk]) (S' := [.int 99, .int 1, .int a1]) rfl ?_
    obtain ⟨q2, eq2, H⟩ := Option.bind_eq_some_iff.mp H
    refine ev_call (vs := [.int a1, .int 1, .int 99]) (rest := []) (q := q_X12_in) hc_X12_coins (Or.inl rfl) (fe_X12_coins (pc := 9) rfl) ms_170 rfl rfl (Nat.le_of_ble_eq_true rfl) rfl (E_X12_in eq2 (by omega)) rfl ?_
    show Ev xs N (d + 1) 262 12 [.ref a0, .int a1, ci_junk, ci_junk, ci_junk, ci_junk, ci_junk, ci_junk] [.int q2.1] q2.2 nx _
    by_cases c3 : q2.1 = 0
    · rw [if_pos c3] at H
      refine ev_bt hc_X12_coins (fe_X12_coins (pc := 12) rfl) rfl c3 ?_
      refine ev_go hc_X12_coins (k := 1) (pc' := 16) (L' := [.ref a0, .int a1, ci_junk, ci_junk, ci_junk, ci_junk, ci_junk, ci_junk]) (S' := [.int ((-1))]) rfl ?_
      obtain rfl := Option.some.inj H
      exact ev_8 hc_X12_coins (fe_X12_coins (pc := 16) rfl) rfl
    · rw [if_neg c3] at H
      refine ev_bf hc_X12_coins (fe_X12_coins (pc := 12) rfl) rfl c3 ?_
      refine ev_go hc_X12_coins (k := 8) (pc' := 27) (L' := [.ref a0, .int a1, .int ((-1)), .int 0, .int 0, .int 1, ci_junk, ci_junk]) (S' := []) rfl ?_
      exact Ev.weak (ci_le_c (Or.inr rfl) (ci_le_c (Or.inr rfl) (ci_le_c (Or.inr rfl) (ci_le_c (Or.inr rfl) (ci_le_c (Or.inr rfl) (ci_le_c (Or.inr rfl) (ci_le_c (Or.inl rfl) (ci_le_c (Or.inl rfl) (ci_le_n))))))))) (eb_X12_coins_27 hd bigN _ _ _ _ _ _ H)
  · rw [if_neg ck] at H; cases H
theorem hc_X12_had : ci_code (ci_Ms 263) = k_X12_had := rfl
theorem fe_X12_had {pc : Nat} {w : Option ci_I} (h : (k_X12_had)[pc]? = some w) : (k_X12_had)[pc]? = some w := h
def b_X12_had_104 (r_36 : Int32 → Int32 → Int32 → Int32 → ci_H → Option (Int32 × ci_H)) (l0 : Nat) (l1 : Int32) (l2 : Int32) (l3 : Int32) (l4 : Int32) (l5 : Int32) (l6 : Int32)  (h : ci_H) : Option (Int32 × ci_H) := r_36 l3 l4 l5 (l6 + 1) h
set_option maxHeartbeats 4000000 in
set_option maxRecDepth 20000 in
theorem eb_X12_had_104 {xs : Nat → Int32} {N d : Nat} {nx : ci_N} {r_36 : Int32 → Int32 → Int32 → Int32 → ci_H → Option (Int32 × ci_H)} {l0 : Nat} {l1 : Int32} {l2 : Int32} {l3 : Int32} {l4 : Int32} {l5 : Int32} {l6 : Int32} (hd : 1 ≤ d) (h_36 : ∀ (l3 : Int32) (l4 : Int32) (l5 : Int32) (l6 : Int32) (h : ci_H) (r : Int32 × ci_H), r_36 l3 l4 l5 l6 h = some r → Ev xs N (d + 1) 263 36 [.ref l0, .int l1, .int l2, .int l3, .int l4, .int l5, .int l6] [] h nx (oI r nx)) {h : ci_H} {r : Int32 × ci_H} (H : b_X12_had_104 r_36 l0 l1 l2 l3 l4 l5 l6 h = some r) : Ev xs N (d + 1) 263 104 [.ref l0, .int l1, .int l2, .int l3, .int l4, .int l5, .int l6] [] h nx (oI r nx) := by
  unfold b_X12_had_104 at H
  refine ev_go hc_X12_had (k := 2) (pc' := 36) (L' := [.ref l0, .int l1, .int l2, .int l3, .int l4, .int l5, .int (l6 + 1)]) (S' := []) rfl ?_
  exact Ev.weak (ci_le_c (Or.inr rfl) (ci_le_c (Or.inr rfl) (ci_le_c (Or.inr rfl) (ci_le_c (Or.inr rfl) (ci_le_c (Or.inr rfl) (ci_le_c (Or.inr rfl) (ci_le_c (Or.inr rfl) (ci_le_n)))))))) (h_36 _ _ _ _ _ _ H)
def b_X12_had_87 (r_36 : Int32 → Int32 → Int32 → Int32 → ci_H → Option (Int32 × ci_H)) (l0 : Nat) (l1 : Int32) (l2 : Int32) (l3 : Int32) (l4 : Int32) (l6 : Int32) (s0 : Int32) (s1 : Int32)  (h : ci_H) : Option (Int32 × ci_H) := (F_X12_isFewer l6 l4 h).bind fun q1 => if q1.1 = 0 then (b_X12_had_104 r_36 l0 l1 l2 l3 l4 (s0 + s1) l6 q1.2) else (b_X12_had_104 r_36 l0 l1 l2 l3 l6 (s0 + s1) l6 q1.2)
set_option maxHeartbeats 4000000 in
set_option maxRecDepth 20000 in
theorem eb_X12_had_87 {xs : Nat → Int32} {N d : Nat} {nx : ci_N} {r_36 : Int32 → Int32 → Int32 → Int32 → ci_H → Option (Int32 × ci_H)} {l0 : Nat} {l1 : Int32} {l2 : Int32} {l3 : Int32} {l4 : Int32} {l6 : Int32} {s0 : Int32} {s1 : Int32} (hd : 1 ≤ d) (h_36 : ∀ (l3 : Int32) (l4 : Int32) (l5 : Int32) (l6 : Int32) (h : ci_H) (r : Int32 × ci_H), r_36 l3 l4 l5 l6 h = some r → Ev xs N (d + 1) 263 36 [.ref l0, .int l1, .int l2, .int l3, .int l4, .int l5, .int l6] [] h nx (oI r nx)) {h : ci_H} {r : Int32 × ci_H} (H : b_X12_had_87 r_36 l0 l1 l2 l3 l4 l6 s0 s1 h = some r) : Ev xs N (d + 1) 263 87 [.ref l0, .int l1, .int l2, .int l3, .int l4, ci_junk, .int l6] [.int s1, .int s0] h nx (oI r nx) := by
  unfold b_X12_had_87 at H
  refine ev_go hc_X12_had (k := 4) (pc' := 94) (L' := [.ref l0, .int l1, .int l2, .int l3, .int l4, .int (s0 + s1), .int l6]) (S' := [.int l4, .int l6]) rfl ?_
  obtain ⟨q1, eq1, H⟩ := Option.bind_eq_some_iff.mp H
  refine ev_call (vs := [.int l6, .int l4]) (rest := []) (q := q_X12_isFewer) hc_X12_had (Or.inl rfl) (fe_X12_had (pc := 94) rfl) ms_254 rfl rfl (Nat.le_of_ble_eq_true rfl) rfl (E_X12_isFewer eq1 (by omega)) rfl ?_
  show Ev xs N (d + 1) 263 97 [.ref l0, .int l1, .int l2, .int l3, .int l4, .int (s0 + s1), .int l6] [.int q1.1] q1.2 nx _
  by_cases c2 : q1.1 = 0
  · rw [if_pos c2] at H
    refine ev_bt hc_X12_had (fe_X12_had (pc := 97) rfl) rfl c2 ?_
    exact Ev.weak (ci_le_c (Or.inr rfl) (ci_le_c (Or.inr rfl) (ci_le_c (Or.inr rfl) (ci_le_c (Or.inr rfl) (ci_le_c (Or.inr rfl) (ci_le_c (Or.inr rfl) (ci_le_c (Or.inr rfl) (ci_le_n)))))))) (eb_X12_had_104 hd h_36 H)
  · rw [if_neg c2] at H
    refine ev_bf hc_X12_had (fe_X12_had (pc := 97) rfl) rfl c2 ?_
    refine ev_go hc_X12_had (k := 2) (pc' := 104) (L' := [.ref l0, .int l1, .int l2, .int l3, .int l6, .int (s0 + s1), .int l6]) (S' := []) rfl ?_
    exact Ev.weak (ci_le_c (Or.inr rfl) (ci_le_c (Or.inr rfl) (ci_le_c (Or.inr rfl) (ci_le_c (Or.inr rfl) (ci_le_c (Or.inr rfl) (ci_le_c (Or.inr rfl) (ci_le_c (Or.inr rfl) (ci_le_n)))))))) (eb_X12_had_104 hd h_36 H)
def b_X12_had_36 (l0 : Nat) (l1 : Int32) (l2 : Int32) : Nat → Int32 → Int32 → Int32 → Int32 → ci_H → Option (Int32 × ci_H)
  | 0, _, _, _, _, _ => none
  | n + 1, l3, l4, l5, l6, h => if 64 ≤ l6 then ((pF h l0 12 10 (.int 0)).bind fun h2 => (F_X12_tell l0 ((l4 : Int32).toInt64) h2).bind fun h3 => (F_X12_tell l0 ((l5 : Int32).toInt64) h3).bind fun h4 => some (l3, h4)) else ((gR h l0 12 0).bind fun v5 => (F_X12_keptBy l0 v5 l1 h).bind fun q6 => (F_X12_withAll l0 q6.1 l6 q6.2).bind fun q7 => (F_J6_bitCount_0f7a4 q7.1 q7.2).bind fun q8 => if q8.1 = l2 then ((F_J6_bitCount_0f7a4 l6 q8.2).bind fun q10 => if q10.1 = 1 then (b_X12_had_87 (fun x0 x1 x2 x3 x4 => b_X12_had_36 l0 l1 l2 n x0 x1 x2 x3 x4) l0 l1 l2 (l3 + 1) l4 l6 l5 1 q10.2) else (b_X12_had_87 (fun x0 x1 x2 x3 x4 => b_X12_had_36 l0 l1 l2 n x0 x1 x2 x3 x4) l0 l1 l2 (l3 + 1) l4 l6 l5 0 q10.2)) else (b_X12_had_104 (fun x0 x1 x2 x3 x4 => b_X12_had_36 l0 l1 l2 n x0 x1 x2 x3 x4) l0 l1 l2 l3 l4 l5 l6 q8.2))
set_option maxHeartbeats 4000000 in
set_option maxRecDepth 20000 in
theorem eb_X12_had_36 {xs : Nat → Int32} {N d : Nat} {nx : ci_N} {l0 : Nat} {l1 : Int32} {l2 : Int32} (hd : 1 ≤ d) : ∀ (n : Nat) (l3 : Int32) (l4 : Int32) (l5 : Int32) (l6 : Int32) (h : ci_H) (r : Int32 × ci_H), b_X12_had_36 l0 l1 l2 n l3 l4 l5 l6 h = some r → Ev xs N (d + 1) 263 36 [.ref l0, .int l1, .int l2, .int l3, .int l4, .int l5, .int l6] [] h nx (oI r nx) := by
  intro n
  induction n with
  | zero => intro l3 l4 l5 l6 h r H; unfold b_X12_had_36 at H; cases H
  | succ n ih =>
    intro l3 l4 l5 l6 h r H
    unfold b_X12_had_36 at H
    refine ev_go hc_X12_had (k := 2) (pc' := 40) (L' := [.ref l0, .int l1, .int l2, .int l3, .int l4, .int l5, .int l6]) (S' := [.int 64, .int l6]) rfl ?_
    by_cases c1 : 64 ≤ l6
    · rw [if_pos c1] at H
      refine ev_bt hc_X12_had (fe_X12_had (pc := 40) rfl) rfl c1 ?_
      refine ev_go hc_X12_had (k := 2) (pc' := 112) (L' := [.ref l0, .int l1, .int l2, .int l3, .int l4, .int l5, .int l6]) (S' := [.int 0, .ref l0]) rfl ?_
      obtain ⟨h2, eh2, H⟩ := Option.bind_eq_some_iff.mp H
      refine ev_5 hc_X12_had (fe_X12_had (pc := 112) rfl) (pF_pf eh2) ?_
      refine ev_go hc_X12_had (k := 3) (pc' := 119) (L' := [.ref l0, .int l1, .int l2, .int l3, .int l4, .int l5, .int l6]) (S' := [.long ((l4 : Int32).toInt64), .ref l0]) rfl ?_
      obtain ⟨h3, eh3, H⟩ := Option.bind_eq_some_iff.mp H
      refine ev_call (vs := [.ref l0, .long ((l4 : Int32).toInt64)]) (rest := []) (q := q_X12_tell) hc_X12_had (Or.inr rfl) (fe_X12_had (pc := 119) rfl) ms_173 rfl rfl (Nat.le_of_ble_eq_true rfl) (kO_recv (K_X12_tell eh3)) (E_X12_tell eh3 (by omega)) rfl ?_
      show Ev xs N (d + 1) 263 122 [.ref l0, .int l1, .int l2, .int l3, .int l4, .int l5, .int l6] [] h3 nx _
      refine ev_go hc_X12_had (k := 3) (pc' := 126) (L' := [.ref l0, .int l1, .int l2, .int l3, .int l4, .int l5, .int l6]) (S' := [.long ((l5 : Int32).toInt64), .ref l0]) rfl ?_
      obtain ⟨h4, eh4, H⟩ := Option.bind_eq_some_iff.mp H
      refine ev_call (vs := [.ref l0, .long ((l5 : Int32).toInt64)]) (rest := []) (q := q_X12_tell) hc_X12_had (Or.inr rfl) (fe_X12_had (pc := 126) rfl) ms_173 rfl rfl (Nat.le_of_ble_eq_true rfl) (kO_recv (K_X12_tell eh4)) (E_X12_tell eh4 (by omega)) rfl ?_
      show Ev xs N (d + 1) 263 129 [.ref l0, .int l1, .int l2, .int l3, .int l4, .int l5, .int l6] [] h4 nx _
      refine ev_go hc_X12_had (k := 1) (pc' := 130) (L' := [.ref l0, .int l1, .int l2, .int l3, .int l4, .int l5, .int l6]) (S' := [.int l3]) rfl ?_
      obtain rfl := Option.some.inj H
      exact ev_8 hc_X12_had (fe_X12_had (pc := 130) rfl) rfl
    · rw [if_neg c1] at H
      refine ev_bf hc_X12_had (fe_X12_had (pc := 40) rfl) rfl c1 ?_
      refine ev_go hc_X12_had (k := 3) (pc' := 46) (L' := [.ref l0, .int l1, .int l2, .int l3, .int l4, .int l5, .int l6]) (S' := [.ref l0, .ref l0, .ref l0]) rfl ?_
      obtain ⟨v5, ev5, H⟩ := Option.bind_eq_some_iff.mp H
      refine ev_4 hc_X12_had (fe_X12_had (pc := 46) rfl) (gR_gf ev5) ?_
      refine ev_go hc_X12_had (k := 1) (pc' := 50) (L' := [.ref l0, .int l1, .int l2, .int l3, .int l4, .int l5, .int l6]) (S' := [.int l1, .ref v5, .ref l0, .ref l0]) rfl ?_
      obtain ⟨q6, eq6, H⟩ := Option.bind_eq_some_iff.mp H
      refine ev_call (vs := [.ref l0, .ref v5, .int l1]) (rest := [.ref l0]) (q := q_X12_keptBy) hc_X12_had (Or.inr rfl) (fe_X12_had (pc := 50) rfl) ms_202 rfl rfl (Nat.le_of_ble_eq_true rfl) (kO_recv (K_X12_keptBy eq6)) (E_X12_keptBy eq6 (by omega)) rfl ?_
      show Ev xs N (d + 1) 263 53 [.ref l0, .int l1, .int l2, .int l3, .int l4, .int l5, .int l6] [.int q6.1, .ref l0] q6.2 nx _
      refine ev_go hc_X12_had (k := 1) (pc' := 55) (L' := [.ref l0, .int l1, .int l2, .int l3, .int l4, .int l5, .int l6]) (S' := [.int l6, .int q6.1, .ref l0]) rfl ?_
      obtain ⟨q7, eq7, H⟩ := Option.bind_eq_some_iff.mp H
      refine ev_call (vs := [.ref l0, .int q6.1, .int l6]) (rest := []) (q := q_X12_withAll) hc_X12_had (Or.inr rfl) (fe_X12_had (pc := 55) rfl) ms_253 rfl rfl (Nat.le_of_ble_eq_true rfl) (kO_recv (K_X12_withAll eq7)) (E_X12_withAll eq7 (by omega)) rfl ?_
      show Ev xs N (d + 1) 263 58 [.ref l0, .int l1, .int l2, .int l3, .int l4, .int l5, .int l6] [.int q7.1] q7.2 nx _
      obtain ⟨q8, eq8, H⟩ := Option.bind_eq_some_iff.mp H
      refine ev_call (vs := [.int q7.1]) (rest := []) (q := q_J6_bitCount_0f7a4) hc_X12_had (Or.inl rfl) (fe_X12_had (pc := 58) rfl) ms_285 rfl rfl (Nat.le_of_ble_eq_true rfl) rfl (E_J6_bitCount_0f7a4 eq8 (by omega)) rfl ?_
      show Ev xs N (d + 1) 263 61 [.ref l0, .int l1, .int l2, .int l3, .int l4, .int l5, .int l6] [.int q8.1] q8.2 nx _
      refine ev_go hc_X12_had (k := 1) (pc' := 62) (L' := [.ref l0, .int l1, .int l2, .int l3, .int l4, .int l5, .int l6]) (S' := [.int l2, .int q8.1]) rfl ?_
      by_cases c9 : q8.1 = l2
      · rw [if_pos c9] at H
        refine ev_bt hc_X12_had (fe_X12_had (pc := 62) rfl) rfl c9 ?_
        refine ev_go hc_X12_had (k := 3) (pc' := 75) (L' := [.ref l0, .int l1, .int l2, .int (l3 + 1), .int l4, .int l5, .int l6]) (S' := [.int l6, .int l5]) rfl ?_
        obtain ⟨q10, eq10, H⟩ := Option.bind_eq_some_iff.mp H
        refine ev_call (vs := [.int l6]) (rest := [.int l5]) (q := q_J6_bitCount_0f7a4) hc_X12_had (Or.inl rfl) (fe_X12_had (pc := 75) rfl) ms_285 rfl rfl (Nat.le_of_ble_eq_true rfl) rfl (E_J6_bitCount_0f7a4 eq10 (by omega)) rfl ?_
        show Ev xs N (d + 1) 263 78 [.ref l0, .int l1, .int l2, .int (l3 + 1), .int l4, .int l5, .int l6] [.int q10.1, .int l5] q10.2 nx _
        refine ev_go hc_X12_had (k := 1) (pc' := 79) (L' := [.ref l0, .int l1, .int l2, .int (l3 + 1), .int l4, .int l5, .int l6]) (S' := [.int 1, .int q10.1, .int l5]) rfl ?_
        by_cases c11 : q10.1 = 1
        · rw [if_pos c11] at H
          refine ev_bt hc_X12_had (fe_X12_had (pc := 79) rfl) rfl c11 ?_
          refine ev_go hc_X12_had (k := 2) (pc' := 87) (L' := [.ref l0, .int l1, .int l2, .int (l3 + 1), .int l4, .int l5, .int l6]) (S' := [.int 1, .int l5]) rfl ?_
          exact Ev.weak (ci_le_c (Or.inr rfl) (ci_le_c (Or.inr rfl) (ci_le_c (Or.inr rfl) (ci_le_c (Or.inr rfl) (ci_le_c (Or.inr rfl) (ci_le_c (Or.inl rfl) (ci_le_c (Or.inr rfl) (ci_le_n)))))))) (eb_X12_had_87 hd ih H)
        · rw [if_neg c11] at H
          refine ev_bf hc_X12_had (fe_X12_had (pc := 79) rfl) rfl c11 ?_
          refine ev_go hc_X12_had (k := 1) (pc' := 87) (L' := [.ref l0, .int l1, .int l2, .int (l3 + 1), .int l4, .int l5, .int l6]) (S' := [.int 0, .int l5]) rfl ?_
          exact Ev.weak (ci_le_c (Or.inr rfl) (ci_le_c (Or.inr rfl) (ci_le_c (Or.inr rfl) (ci_le_c (Or.inr rfl) (ci_le_c (Or.inr rfl) (ci_le_c (Or.inl rfl) (ci_le_c (Or.inr rfl) (ci_le_n)))))))) (eb_X12_had_87 hd ih H)
      · rw [if_neg c9] at H
        refine ev_bf hc_X12_had (fe_X12_had (pc := 62) rfl) rfl c9 ?_
        refine ev_go hc_X12_had (k := 1) (pc' := 104) (L' := [.ref l0, .int l1, .int l2, .int l3, .int l4, .int l5, .int l6]) (S' := []) rfl ?_
        exact Ev.weak (ci_le_c (Or.inr rfl) (ci_le_c (Or.inr rfl) (ci_le_c (Or.inr rfl) (ci_le_c (Or.inr rfl) (ci_le_c (Or.inr rfl) (ci_le_c (Or.inr rfl) (ci_le_c (Or.inr rfl) (ci_le_n)))))))) (eb_X12_had_104 hd ih H)
def F_X12_had (a0 : Nat) (a1 : Int32) (a2 : Int32) (h : ci_H) : Option (Int32 × ci_H) := if kO h a0 = some 12 then ((pF h a0 12 11 (.int 0)).bind fun h1 => (F_X12_isHouse a0 a1 h1).bind fun q2 => if q2.1 = 0 then (some ((-1), q2.2)) else ((F_X12_in a2 0 12 q2.2).bind fun q4 => if q4.1 = 0 then (some ((-1), q4.2)) else (b_X12_had_36 a0 a1 a2 bigN 0 ((-1)) 0 0 q4.2))) else none
theorem K_X12_had {a0 : Nat} {a1 : Int32} {a2 : Int32} {h : ci_H} {r : Int32 × ci_H} (H : F_X12_had a0 a1 a2 h = some r) : kO h a0 = some 12 := by
  unfold F_X12_had at H
  by_cases c : kO h a0 = some 12
  · exact c
  · rw [if_neg c] at H; cases H
set_option maxHeartbeats 4000000 in
set_option maxRecDepth 20000 in
theorem E_X12_had {xs : Nat → Int32} {N d : Nat} {nx : ci_N} {a0 : Nat} {a1 : Int32} {a2 : Int32} {h : ci_H} {r : Int32 × ci_H} (H : F_X12_had a0 a1 a2 h = some r) (hd : 2 ≤ d) : Ev xs N d 263 0 (ci_entry [.ref a0, .int a1, .int a2] 7) [] h nx (oI r nx) := by
  obtain ⟨d, rfl⟩ : ∃ d2, d = d2 + 1 := ⟨d - 1, by omega⟩
  have hd : 1 ≤ d := by omega
  unfold F_X12_had at H
  by_cases ck : kO h a0 = some 12
  · rw [if_pos ck] at H
    show Ev xs N (d + 1) 263 0 [.ref a0, .int a1, .int a2, ci_junk, ci_junk, ci_junk, ci_junk] [] h nx _
    refine ev_go hc_X12_had (k := 2) (pc' := 2) (L' := [.ref a0, .int a1, .int a2, ci_junk, ci_junk, ci_junk, ci_junk]) (S' := [.int 0, .ref a0]) rfl ?_
    obtain ⟨h1, eh1, H⟩ := Option.bind_eq_some_iff.mp H
    refine ev_5 hc_X12_had (fe_X12_had (pc := 2) rfl) (pF_pf eh1) ?_
    refine ev_go hc_X12_had (k := 2) (pc' := 7) (L' := [.ref a0, .int a1, .int a2, ci_junk, ci_junk, ci_junk, ci_junk]) (S' := [.int a1, .ref a0]) rfl ?_
    obtain ⟨q2, eq2, H⟩ := Option.bind_eq_some_iff.mp H
    refine ev_call (vs := [.ref a0, .int a1]) (rest := []) (q := q_X12_isHouse) hc_X12_had (Or.inr rfl) (fe_X12_had (pc := 7) rfl) ms_175 rfl rfl (Nat.le_of_ble_eq_true rfl) (kO_recv (K_X12_isHouse eq2)) (E_X12_isHouse eq2 (by omega)) rfl ?_
    show Ev xs N (d + 1) 263 10 [.ref a0, .int a1, .int a2, ci_junk, ci_junk, ci_junk, ci_junk] [.int q2.1] q2.2 nx _
    by_cases c3 : q2.1 = 0
    · rw [if_pos c3] at H
      refine ev_bt hc_X12_had (fe_X12_had (pc := 10) rfl) rfl c3 ?_
      refine ev_go hc_X12_had (k := 1) (pc' := 24) (L' := [.ref a0, .int a1, .int a2, ci_junk, ci_junk, ci_junk, ci_junk]) (S' := [.int ((-1))]) rfl ?_
      obtain rfl := Option.some.inj H
      exact ev_8 hc_X12_had (fe_X12_had (pc := 24) rfl) rfl
    · rw [if_neg c3] at H
      refine ev_bf hc_X12_had (fe_X12_had (pc := 10) rfl) rfl c3 ?_
      refine ev_go hc_X12_had (k := 3) (pc' := 17) (L' := [.ref a0, .int a1, .int a2, ci_junk, ci_junk, ci_junk, ci_junk]) (S' := [.int 12, .int 0, .int a2]) rfl ?_
      obtain ⟨q4, eq4, H⟩ := Option.bind_eq_some_iff.mp H
      refine ev_call (vs := [.int a2, .int 0, .int 12]) (rest := []) (q := q_X12_in) hc_X12_had (Or.inl rfl) (fe_X12_had (pc := 17) rfl) ms_170 rfl rfl (Nat.le_of_ble_eq_true rfl) rfl (E_X12_in eq4 (by omega)) rfl ?_
      show Ev xs N (d + 1) 263 20 [.ref a0, .int a1, .int a2, ci_junk, ci_junk, ci_junk, ci_junk] [.int q4.1] q4.2 nx _
      by_cases c5 : q4.1 = 0
      · rw [if_pos c5] at H
        refine ev_bt hc_X12_had (fe_X12_had (pc := 20) rfl) rfl c5 ?_
        refine ev_go hc_X12_had (k := 1) (pc' := 24) (L' := [.ref a0, .int a1, .int a2, ci_junk, ci_junk, ci_junk, ci_junk]) (S' := [.int ((-1))]) rfl ?_
        obtain rfl := Option.some.inj H
        exact ev_8 hc_X12_had (fe_X12_had (pc := 24) rfl) rfl
      · rw [if_neg c5] at H
        refine ev_bf hc_X12_had (fe_X12_had (pc := 20) rfl) rfl c5 ?_
        refine ev_go hc_X12_had (k := 8) (pc' := 36) (L' := [.ref a0, .int a1, .int a2, .int 0, .int ((-1)), .int 0, .int 0]) (S' := []) rfl ?_
        exact Ev.weak (ci_le_c (Or.inr rfl) (ci_le_c (Or.inr rfl) (ci_le_c (Or.inr rfl) (ci_le_c (Or.inr rfl) (ci_le_c (Or.inr rfl) (ci_le_c (Or.inr rfl) (ci_le_c (Or.inr rfl) (ci_le_n)))))))) (eb_X12_had_36 hd bigN _ _ _ _ _ _ H)
  · rw [if_neg ck] at H; cases H
theorem hc_X12_heard : ci_code (ci_Ms 264) = k_X12_heard := rfl
theorem fe_X12_heard {pc : Nat} {w : Option ci_I} (h : (k_X12_heard)[pc]? = some w) : (k_X12_heard)[pc]? = some w := h
def F_X12_heard (a0 : Nat) (a1 : Int32) (a2 : Int32) (h : ci_H) : Option (Int32 × ci_H) := if kO h a0 = some 12 then ((pF h a0 12 11 (.int 0)).bind fun h1 => (F_X12_isThing a0 a1 h1).bind fun q2 => if q2.1 = 0 then (some ((-1), q2.2)) else ((F_X12_in a2 0 1 q2.2).bind fun q4 => if q4.1 = 0 then (some ((-1), q4.2)) else ((gI q4.2 a0 12 33).bind fun v6 => if v6 = 12 then (some ((-1), q4.2)) else ((gR q4.2 a0 12 32).bind fun v8 => (gI q4.2 a0 12 33).bind fun v9 => (wI q4.2 v8 v9 a1).bind fun h10 => (gI h10 a0 12 34).bind fun v11 => (gI h10 a0 12 33).bind fun v12 => (gI h10 a0 12 33).bind fun v13 => (pF h10 a0 12 34 (.int ((v11 &&& (((1 : Int32) <<< (v12 &&& 31)) ^^^ ((-1)))) ||| (a2 <<< (v13 &&& 31))))).bind fun h14 => (gI h14 a0 12 33).bind fun v15 => (pF h14 a0 12 33 (.int (v15 + 1))).bind fun h16 => (gI h16 a0 12 33).bind fun v17 => some (v17, h16))))) else none
theorem K_X12_heard {a0 : Nat} {a1 : Int32} {a2 : Int32} {h : ci_H} {r : Int32 × ci_H} (H : F_X12_heard a0 a1 a2 h = some r) : kO h a0 = some 12 := by
  unfold F_X12_heard at H
  by_cases c : kO h a0 = some 12
  · exact c
  · rw [if_neg c] at H; cases H
set_option maxHeartbeats 4000000 in
set_option maxRecDepth 20000 in
theorem E_X12_heard {xs : Nat → Int32} {N d : Nat} {nx : ci_N} {a0 : Nat} {a1 : Int32} {a2 : Int32} {h : ci_H} {r : Int32 × ci_H} (H : F_X12_heard a0 a1 a2 h = some r) (hd : 2 ≤ d) : Ev xs N d 264 0 (ci_entry [.ref a0, .int a1, .int a2] 3) [] h nx (oI r nx) := by
  obtain ⟨d, rfl⟩ : ∃ d2, d = d2 + 1 := ⟨d - 1, by omega⟩
  have hd : 1 ≤ d := by omega
  unfold F_X12_heard at H
  by_cases ck : kO h a0 = some 12
  · rw [if_pos ck] at H
    show Ev xs N (d + 1) 264 0 [.ref a0, .int a1, .int a2] [] h nx _
    refine ev_go hc_X12_heard (k := 2) (pc' := 2) (L' := [.ref a0, .int a1, .int a2]) (S' := [.int 0, .ref a0]) rfl ?_
    obtain ⟨h1, eh1, H⟩ := Option.bind_eq_some_iff.mp H
    refine ev_5 hc_X12_heard (fe_X12_heard (pc := 2) rfl) (pF_pf eh1) ?_
    refine ev_go hc_X12_heard (k := 2) (pc' := 7) (L' := [.ref a0, .int a1, .int a2]) (S' := [.int a1, .ref a0]) rfl ?_
    obtain ⟨q2, eq2, H⟩ := Option.bind_eq_some_iff.mp H
    refine ev_call (vs := [.ref a0, .int a1]) (rest := []) (q := q_X12_isThing) hc_X12_heard (Or.inr rfl) (fe_X12_heard (pc := 7) rfl) ms_174 rfl rfl (Nat.le_of_ble_eq_true rfl) (kO_recv (K_X12_isThing eq2)) (E_X12_isThing eq2 (by omega)) rfl ?_
    show Ev xs N (d + 1) 264 10 [.ref a0, .int a1, .int a2] [.int q2.1] q2.2 nx _
    by_cases c3 : q2.1 = 0
    · rw [if_pos c3] at H
      refine ev_bt hc_X12_heard (fe_X12_heard (pc := 10) rfl) rfl c3 ?_
      refine ev_go hc_X12_heard (k := 1) (pc' := 32) (L' := [.ref a0, .int a1, .int a2]) (S' := [.int ((-1))]) rfl ?_
      obtain rfl := Option.some.inj H
      exact ev_8 hc_X12_heard (fe_X12_heard (pc := 32) rfl) rfl
    · rw [if_neg c3] at H
      refine ev_bf hc_X12_heard (fe_X12_heard (pc := 10) rfl) rfl c3 ?_
      refine ev_go hc_X12_heard (k := 3) (pc' := 16) (L' := [.ref a0, .int a1, .int a2]) (S' := [.int 1, .int 0, .int a2]) rfl ?_
      obtain ⟨q4, eq4, H⟩ := Option.bind_eq_some_iff.mp H
      refine ev_call (vs := [.int a2, .int 0, .int 1]) (rest := []) (q := q_X12_in) hc_X12_heard (Or.inl rfl) (fe_X12_heard (pc := 16) rfl) ms_170 rfl rfl (Nat.le_of_ble_eq_true rfl) rfl (E_X12_in eq4 (by omega)) rfl ?_
      show Ev xs N (d + 1) 264 19 [.ref a0, .int a1, .int a2] [.int q4.1] q4.2 nx _
      by_cases c5 : q4.1 = 0
      · rw [if_pos c5] at H
        refine ev_bt hc_X12_heard (fe_X12_heard (pc := 19) rfl) rfl c5 ?_
        refine ev_go hc_X12_heard (k := 1) (pc' := 32) (L' := [.ref a0, .int a1, .int a2]) (S' := [.int ((-1))]) rfl ?_
        obtain rfl := Option.some.inj H
        exact ev_8 hc_X12_heard (fe_X12_heard (pc := 32) rfl) rfl
      · rw [if_neg c5] at H
        refine ev_bf hc_X12_heard (fe_X12_heard (pc := 19) rfl) rfl c5 ?_
        refine ev_go hc_X12_heard (k := 1) (pc' := 23) (L' := [.ref a0, .int a1, .int a2]) (S' := [.ref a0]) rfl ?_
        obtain ⟨v6, ev6, H⟩ := Option.bind_eq_some_iff.mp H
        refine ev_4 hc_X12_heard (fe_X12_heard (pc := 23) rfl) (gI_gf ev6) ?_
        refine ev_go hc_X12_heard (k := 1) (pc' := 28) (L' := [.ref a0, .int a1, .int a2]) (S' := [.int 12, .int v6]) rfl ?_
        by_cases c7 : v6 = 12
        · rw [if_pos c7] at H
          refine ev_bt hc_X12_heard (fe_X12_heard (pc := 28) rfl) rfl c7 ?_
          refine ev_go hc_X12_heard (k := 1) (pc' := 32) (L' := [.ref a0, .int a1, .int a2]) (S' := [.int ((-1))]) rfl ?_
          obtain rfl := Option.some.inj H
          exact ev_8 hc_X12_heard (fe_X12_heard (pc := 32) rfl) rfl
        · rw [if_neg c7] at H
          refine ev_bf hc_X12_heard (fe_X12_heard (pc := 28) rfl) rfl c7 ?_
          refine ev_go hc_X12_heard (k := 1) (pc' := 34) (L' := [.ref a0, .int a1, .int a2]) (S' := [.ref a0]) rfl ?_
          obtain ⟨v8, ev8, H⟩ := Option.bind_eq_some_iff.mp H
          refine ev_4 hc_X12_heard (fe_X12_heard (pc := 34) rfl) (gR_gf ev8) ?_
          refine ev_go hc_X12_heard (k := 1) (pc' := 38) (L' := [.ref a0, .int a1, .int a2]) (S' := [.ref a0, .ref v8]) rfl ?_
          obtain ⟨v9, ev9, H⟩ := Option.bind_eq_some_iff.mp H
          refine ev_4 hc_X12_heard (fe_X12_heard (pc := 38) rfl) (gI_gf ev9) ?_
          refine ev_go hc_X12_heard (k := 1) (pc' := 42) (L' := [.ref a0, .int a1, .int a2]) (S' := [.int a1, .int v9, .ref v8]) rfl ?_
          obtain ⟨h10, eh10, H⟩ := Option.bind_eq_some_iff.mp H
          refine ev_5 hc_X12_heard (fe_X12_heard (pc := 42) rfl) (wI_as eh10) ?_
          refine ev_go hc_X12_heard (k := 2) (pc' := 45) (L' := [.ref a0, .int a1, .int a2]) (S' := [.ref a0, .ref a0]) rfl ?_
          obtain ⟨v11, ev11, H⟩ := Option.bind_eq_some_iff.mp H
          refine ev_4 hc_X12_heard (fe_X12_heard (pc := 45) rfl) (gI_gf ev11) ?_
          refine ev_go hc_X12_heard (k := 2) (pc' := 50) (L' := [.ref a0, .int a1, .int a2]) (S' := [.ref a0, .int 1, .int v11, .ref a0]) rfl ?_
          obtain ⟨v12, ev12, H⟩ := Option.bind_eq_some_iff.mp H
          refine ev_4 hc_X12_heard (fe_X12_heard (pc := 50) rfl) (gI_gf ev12) ?_
          refine ev_go hc_X12_heard (k := 6) (pc' := 59) (L' := [.ref a0, .int a1, .int a2]) (S' := [.ref a0, .int a2, .int (v11 &&& (((1 : Int32) <<< (v12 &&& 31)) ^^^ ((-1)))), .ref a0]) rfl ?_
          obtain ⟨v13, ev13, H⟩ := Option.bind_eq_some_iff.mp H
          refine ev_4 hc_X12_heard (fe_X12_heard (pc := 59) rfl) (gI_gf ev13) ?_
          refine ev_go hc_X12_heard (k := 2) (pc' := 64) (L' := [.ref a0, .int a1, .int a2]) (S' := [.int ((v11 &&& (((1 : Int32) <<< (v12 &&& 31)) ^^^ ((-1)))) ||| (a2 <<< (v13 &&& 31))), .ref a0]) rfl ?_
          obtain ⟨h14, eh14, H⟩ := Option.bind_eq_some_iff.mp H
          refine ev_5 hc_X12_heard (fe_X12_heard (pc := 64) rfl) (pF_pf eh14) ?_
          refine ev_go hc_X12_heard (k := 2) (pc' := 69) (L' := [.ref a0, .int a1, .int a2]) (S' := [.ref a0, .ref a0]) rfl ?_
          obtain ⟨v15, ev15, H⟩ := Option.bind_eq_some_iff.mp H
          refine ev_4 hc_X12_heard (fe_X12_heard (pc := 69) rfl) (gI_gf ev15) ?_
          refine ev_go hc_X12_heard (k := 2) (pc' := 74) (L' := [.ref a0, .int a1, .int a2]) (S' := [.int (v15 + 1), .ref a0]) rfl ?_
          obtain ⟨h16, eh16, H⟩ := Option.bind_eq_some_iff.mp H
          refine ev_5 hc_X12_heard (fe_X12_heard (pc := 74) rfl) (pF_pf eh16) ?_
          refine ev_go hc_X12_heard (k := 1) (pc' := 78) (L' := [.ref a0, .int a1, .int a2]) (S' := [.ref a0]) rfl ?_
          obtain ⟨v17, ev17, H⟩ := Option.bind_eq_some_iff.mp H
          refine ev_4 hc_X12_heard (fe_X12_heard (pc := 78) rfl) (gI_gf ev17) ?_
          obtain rfl := Option.some.inj H
          exact ev_8 hc_X12_heard (fe_X12_heard (pc := 81) rfl) rfl
  · rw [if_neg ck] at H; cases H
theorem hc_X12_forget : ci_code (ci_Ms 265) = k_X12_forget := rfl
theorem fe_X12_forget {pc : Nat} {w : Option ci_I} (h : (k_X12_forget)[pc]? = some w) : (k_X12_forget)[pc]? = some w := h
def F_X12_forget (a0 : Nat) (h : ci_H) : Option (Int32 × ci_H) := if kO h a0 = some 12 then ((pF h a0 12 11 (.int 0)).bind fun h1 => (gI h1 a0 12 33).bind fun v2 => (pF h1 a0 12 33 (.int 0)).bind fun h3 => some (v2, h3)) else none
theorem K_X12_forget {a0 : Nat} {h : ci_H} {r : Int32 × ci_H} (H : F_X12_forget a0 h = some r) : kO h a0 = some 12 := by
  unfold F_X12_forget at H
  by_cases c : kO h a0 = some 12
  · exact c
  · rw [if_neg c] at H; cases H
set_option maxHeartbeats 4000000 in
set_option maxRecDepth 20000 in
theorem E_X12_forget {xs : Nat → Int32} {N d : Nat} {nx : ci_N} {a0 : Nat} {h : ci_H} {r : Int32 × ci_H} (H : F_X12_forget a0 h = some r) (hd : 0 ≤ d) : Ev xs N d 265 0 (ci_entry [.ref a0] 2) [] h nx (oI r nx) := by
  unfold F_X12_forget at H
  by_cases ck : kO h a0 = some 12
  · rw [if_pos ck] at H
    show Ev xs N d 265 0 [.ref a0, ci_junk] [] h nx _
    refine ev_go hc_X12_forget (k := 2) (pc' := 2) (L' := [.ref a0, ci_junk]) (S' := [.int 0, .ref a0]) rfl ?_
    obtain ⟨h1, eh1, H⟩ := Option.bind_eq_some_iff.mp H
    refine ev_5 hc_X12_forget (fe_X12_forget (pc := 2) rfl) (pF_pf eh1) ?_
    refine ev_go hc_X12_forget (k := 1) (pc' := 6) (L' := [.ref a0, ci_junk]) (S' := [.ref a0]) rfl ?_
    obtain ⟨v2, ev2, H⟩ := Option.bind_eq_some_iff.mp H
    refine ev_4 hc_X12_forget (fe_X12_forget (pc := 6) rfl) (gI_gf ev2) ?_
    refine ev_go hc_X12_forget (k := 3) (pc' := 12) (L' := [.ref a0, .int v2]) (S' := [.int 0, .ref a0]) rfl ?_
    obtain ⟨h3, eh3, H⟩ := Option.bind_eq_some_iff.mp H
    refine ev_5 hc_X12_forget (fe_X12_forget (pc := 12) rfl) (pF_pf eh3) ?_
    refine ev_go hc_X12_forget (k := 1) (pc' := 16) (L' := [.ref a0, .int v2]) (S' := [.int v2]) rfl ?_
    obtain rfl := Option.some.inj H
    exact ev_8 hc_X12_forget (fe_X12_forget (pc := 16) rfl) rfl
  · rw [if_neg ck] at H; cases H
theorem hc_X12_fits : ci_code (ci_Ms 266) = k_X12_fits := rfl
theorem fe_X12_fits {pc : Nat} {w : Option ci_I} (h : (k_X12_fits)[pc]? = some w) : (k_X12_fits)[pc]? = some w := h
def b_X12_fits_90 (r_4 : Int32 → Int32 → ci_H → Option (Int32 × ci_H)) (l0 : Nat) (l2 : Int32) (s0 : Int32) (s1 : Int32)  (h : ci_H) : Option (Int32 × ci_H) := r_4 (s0 ||| s1) (l2 + 1) h
set_option maxHeartbeats 4000000 in
set_option maxRecDepth 20000 in
theorem eb_X12_fits_90 {xs : Nat → Int32} {N d : Nat} {nx : ci_N} {r_4 : Int32 → Int32 → ci_H → Option (Int32 × ci_H)} {l0 : Nat} {l2 : Int32} {s0 : Int32} {s1 : Int32} (hd : 0 ≤ d) (h_4 : ∀ (l1 : Int32) (l2 : Int32) (h : ci_H) (r : Int32 × ci_H), r_4 l1 l2 h = some r → Ev xs N (d + 1) 266 4 [.ref l0, .int l1, .int l2, ci_junk, ci_junk] [] h nx (oI r nx)) {h : ci_H} {r : Int32 × ci_H} (H : b_X12_fits_90 r_4 l0 l2 s0 s1 h = some r) : Ev xs N (d + 1) 266 90 [.ref l0, ci_junk, .int l2, ci_junk, ci_junk] [.int s1, .int s0] h nx (oI r nx) := by
  unfold b_X12_fits_90 at H
  refine ev_go hc_X12_fits (k := 4) (pc' := 4) (L' := [.ref l0, .int (s0 ||| s1), .int (l2 + 1), ci_junk, ci_junk]) (S' := []) rfl ?_
  exact Ev.weak (ci_le_c (Or.inr rfl) (ci_le_c (Or.inr rfl) (ci_le_c (Or.inr rfl) (ci_le_c (Or.inl rfl) (ci_le_c (Or.inl rfl) (ci_le_n)))))) (h_4 _ _ _ _ H)
def b_X12_fits_71 (r_4 : Int32 → Int32 → ci_H → Option (Int32 × ci_H)) (r_17 : Int32 → Int32 → ci_H → Option (Int32 × ci_H)) (l0 : Nat) (l1 : Int32) (l2 : Int32) (l4 : Int32) (s0 : Int32)  (h : ci_H) : Option (Int32 × ci_H) := r_17 s0 (l4 + 1) h
set_option maxHeartbeats 4000000 in
set_option maxRecDepth 20000 in
theorem eb_X12_fits_71 {xs : Nat → Int32} {N d : Nat} {nx : ci_N} {r_4 : Int32 → Int32 → ci_H → Option (Int32 × ci_H)} {r_17 : Int32 → Int32 → ci_H → Option (Int32 × ci_H)} {l0 : Nat} {l1 : Int32} {l2 : Int32} {l4 : Int32} {s0 : Int32} (hd : 0 ≤ d) (h_4 : ∀ (l1 : Int32) (l2 : Int32) (h : ci_H) (r : Int32 × ci_H), r_4 l1 l2 h = some r → Ev xs N (d + 1) 266 4 [.ref l0, .int l1, .int l2, ci_junk, ci_junk] [] h nx (oI r nx)) (h_17 : ∀ (l3 : Int32) (l4 : Int32) (h : ci_H) (r : Int32 × ci_H), r_17 l3 l4 h = some r → Ev xs N (d + 1) 266 17 [.ref l0, .int l1, .int l2, .int l3, .int l4] [] h nx (oI r nx)) {h : ci_H} {r : Int32 × ci_H} (H : b_X12_fits_71 r_4 r_17 l0 l1 l2 l4 s0 h = some r) : Ev xs N (d + 1) 266 71 [.ref l0, .int l1, .int l2, ci_junk, .int l4] [.int s0] h nx (oI r nx) := by
  unfold b_X12_fits_71 at H
  refine ev_go hc_X12_fits (k := 3) (pc' := 17) (L' := [.ref l0, .int l1, .int l2, .int s0, .int (l4 + 1)]) (S' := []) rfl ?_
  exact Ev.weak (ci_le_c (Or.inr rfl) (ci_le_c (Or.inr rfl) (ci_le_c (Or.inr rfl) (ci_le_c (Or.inr rfl) (ci_le_c (Or.inr rfl) (ci_le_n)))))) (h_17 _ _ _ _ H)
def b_X12_fits_70 (r_4 : Int32 → Int32 → ci_H → Option (Int32 × ci_H)) (r_17 : Int32 → Int32 → ci_H → Option (Int32 × ci_H)) (l0 : Nat) (l1 : Int32) (l2 : Int32) (l4 : Int32)  (h : ci_H) : Option (Int32 × ci_H) := b_X12_fits_71 r_4 r_17 l0 l1 l2 l4 0 h
set_option maxHeartbeats 4000000 in
set_option maxRecDepth 20000 in
theorem eb_X12_fits_70 {xs : Nat → Int32} {N d : Nat} {nx : ci_N} {r_4 : Int32 → Int32 → ci_H → Option (Int32 × ci_H)} {r_17 : Int32 → Int32 → ci_H → Option (Int32 × ci_H)} {l0 : Nat} {l1 : Int32} {l2 : Int32} {l4 : Int32} (hd : 0 ≤ d) (h_4 : ∀ (l1 : Int32) (l2 : Int32) (h : ci_H) (r : Int32 × ci_H), r_4 l1 l2 h = some r → Ev xs N (d + 1) 266 4 [.ref l0, .int l1, .int l2, ci_junk, ci_junk] [] h nx (oI r nx)) (h_17 : ∀ (l3 : Int32) (l4 : Int32) (h : ci_H) (r : Int32 × ci_H), r_17 l3 l4 h = some r → Ev xs N (d + 1) 266 17 [.ref l0, .int l1, .int l2, .int l3, .int l4] [] h nx (oI r nx)) {h : ci_H} {r : Int32 × ci_H} (H : b_X12_fits_70 r_4 r_17 l0 l1 l2 l4 h = some r) : Ev xs N (d + 1) 266 70 [.ref l0, .int l1, .int l2, ci_junk, .int l4] [] h nx (oI r nx) := by
  unfold b_X12_fits_70 at H
  refine ev_go hc_X12_fits (k := 1) (pc' := 71) (L' := [.ref l0, .int l1, .int l2, ci_junk, .int l4]) (S' := [.int 0]) rfl ?_
  exact Ev.weak (ci_le_c (Or.inr rfl) (ci_le_c (Or.inr rfl) (ci_le_c (Or.inr rfl) (ci_le_c (Or.inl rfl) (ci_le_c (Or.inr rfl) (ci_le_n)))))) (eb_X12_fits_71 hd h_4 h_17 H)
def b_X12_fits_54 (r_4 : Int32 → Int32 → ci_H → Option (Int32 × ci_H)) (r_17 : Int32 → Int32 → ci_H → Option (Int32 × ci_H)) (l0 : Nat) (l1 : Int32) (l2 : Int32) (l4 : Int32) (s0 : Int32)  (h : ci_H) : Option (Int32 × ci_H) := (gI h l0 12 34).bind fun v1 => (F_X12_has v1 l4 h).bind fun q2 => if s0 = q2.1 then (b_X12_fits_71 r_4 r_17 l0 l1 l2 l4 1 q2.2) else (b_X12_fits_70 r_4 r_17 l0 l1 l2 l4 q2.2)
set_option maxHeartbeats 4000000 in
set_option maxRecDepth 20000 in
theorem eb_X12_fits_54 {xs : Nat → Int32} {N d : Nat} {nx : ci_N} {r_4 : Int32 → Int32 → ci_H → Option (Int32 × ci_H)} {r_17 : Int32 → Int32 → ci_H → Option (Int32 × ci_H)} {l0 : Nat} {l1 : Int32} {l2 : Int32} {l4 : Int32} {s0 : Int32} (hd : 0 ≤ d) (h_4 : ∀ (l1 : Int32) (l2 : Int32) (h : ci_H) (r : Int32 × ci_H), r_4 l1 l2 h = some r → Ev xs N (d + 1) 266 4 [.ref l0, .int l1, .int l2, ci_junk, ci_junk] [] h nx (oI r nx)) (h_17 : ∀ (l3 : Int32) (l4 : Int32) (h : ci_H) (r : Int32 × ci_H), r_17 l3 l4 h = some r → Ev xs N (d + 1) 266 17 [.ref l0, .int l1, .int l2, .int l3, .int l4] [] h nx (oI r nx)) {h : ci_H} {r : Int32 × ci_H} (H : b_X12_fits_54 r_4 r_17 l0 l1 l2 l4 s0 h = some r) : Ev xs N (d + 1) 266 54 [.ref l0, .int l1, .int l2, ci_junk, .int l4] [.int s0] h nx (oI r nx) := by
  unfold b_X12_fits_54 at H
  refine ev_go hc_X12_fits (k := 1) (pc' := 55) (L' := [.ref l0, .int l1, .int l2, ci_junk, .int l4]) (S' := [.ref l0, .int s0]) rfl ?_
  obtain ⟨v1, ev1, H⟩ := Option.bind_eq_some_iff.mp H
  refine ev_4 hc_X12_fits (fe_X12_fits (pc := 55) rfl) (gI_gf ev1) ?_
  refine ev_go hc_X12_fits (k := 1) (pc' := 60) (L' := [.ref l0, .int l1, .int l2, ci_junk, .int l4]) (S' := [.int l4, .int v1, .int s0]) rfl ?_
  obtain ⟨q2, eq2, H⟩ := Option.bind_eq_some_iff.mp H
  refine ev_call (vs := [.int v1, .int l4]) (rest := [.int s0]) (q := q_X12_has) hc_X12_fits (Or.inl rfl) (fe_X12_fits (pc := 60) rfl) ms_171 rfl rfl (Nat.le_of_ble_eq_true rfl) rfl (E_X12_has eq2 (by omega)) rfl ?_
  show Ev xs N (d + 1) 266 63 [.ref l0, .int l1, .int l2, ci_junk, .int l4] [.int q2.1, .int s0] q2.2 nx _
  by_cases c3 : s0 = q2.1
  · rw [if_pos c3] at H
    refine ev_bt hc_X12_fits (fe_X12_fits (pc := 63) rfl) rfl c3 ?_
    refine ev_go hc_X12_fits (k := 2) (pc' := 71) (L' := [.ref l0, .int l1, .int l2, ci_junk, .int l4]) (S' := [.int 1]) rfl ?_
    exact Ev.weak (ci_le_c (Or.inr rfl) (ci_le_c (Or.inr rfl) (ci_le_c (Or.inr rfl) (ci_le_c (Or.inl rfl) (ci_le_c (Or.inr rfl) (ci_le_n)))))) (eb_X12_fits_71 hd h_4 h_17 H)
  · rw [if_neg c3] at H
    refine ev_bf hc_X12_fits (fe_X12_fits (pc := 63) rfl) rfl c3 ?_
    exact Ev.weak (ci_le_c (Or.inr rfl) (ci_le_c (Or.inr rfl) (ci_le_c (Or.inr rfl) (ci_le_c (Or.inl rfl) (ci_le_c (Or.inr rfl) (ci_le_n)))))) (eb_X12_fits_70 hd h_4 h_17 H)
def b_X12_fits_17 (r_4 : Int32 → Int32 → ci_H → Option (Int32 × ci_H)) (l0 : Nat) (l1 : Int32) (l2 : Int32) : Nat → Int32 → Int32 → ci_H → Option (Int32 × ci_H)
  | 0, _, _, _ => none
  | n + 1, l3, l4, h => (gI h l0 12 33).bind fun v1 => if v1 ≤ l4 then (if l3 = 0 then (b_X12_fits_90 r_4 l0 l2 l1 0 h) else (b_X12_fits_90 r_4 l0 l2 l1 ((1 : Int32) <<< (l2 &&& 31)) h)) else (if l3 = 0 then (b_X12_fits_70 r_4 (fun x0 x1 x2 => b_X12_fits_17 r_4 l0 l1 l2 n x0 x1 x2) l0 l1 l2 l4 h) else ((gR h l0 12 0).bind fun v5 => (gR h l0 12 32).bind fun v6 => (rI h v6 l4).bind fun v7 => (rI h v5 (24 + v7)).bind fun v8 => if v8 = l2 then (b_X12_fits_54 r_4 (fun x0 x1 x2 => b_X12_fits_17 r_4 l0 l1 l2 n x0 x1 x2) l0 l1 l2 l4 1 h) else (b_X12_fits_54 r_4 (fun x0 x1 x2 => b_X12_fits_17 r_4 l0 l1 l2 n x0 x1 x2) l0 l1 l2 l4 0 h)))
set_option maxHeartbeats 4000000 in
set_option maxRecDepth 20000 in
theorem eb_X12_fits_17 {xs : Nat → Int32} {N d : Nat} {nx : ci_N} {r_4 : Int32 → Int32 → ci_H → Option (Int32 × ci_H)} {l0 : Nat} {l1 : Int32} {l2 : Int32} (hd : 0 ≤ d) (h_4 : ∀ (l1 : Int32) (l2 : Int32) (h : ci_H) (r : Int32 × ci_H), r_4 l1 l2 h = some r → Ev xs N (d + 1) 266 4 [.ref l0, .int l1, .int l2, ci_junk, ci_junk] [] h nx (oI r nx)) : ∀ (n : Nat) (l3 : Int32) (l4 : Int32) (h : ci_H) (r : Int32 × ci_H), b_X12_fits_17 r_4 l0 l1 l2 n l3 l4 h = some r → Ev xs N (d + 1) 266 17 [.ref l0, .int l1, .int l2, .int l3, .int l4] [] h nx (oI r nx) := by
  intro n
  induction n with
  | zero => intro l3 l4 h r H; unfold b_X12_fits_17 at H; cases H
  | succ n ih =>
    intro l3 l4 h r H
    unfold b_X12_fits_17 at H
    refine ev_go hc_X12_fits (k := 2) (pc' := 20) (L' := [.ref l0, .int l1, .int l2, .int l3, .int l4]) (S' := [.ref l0, .int l4]) rfl ?_
    obtain ⟨v1, ev1, H⟩ := Option.bind_eq_some_iff.mp H
    refine ev_4 hc_X12_fits (fe_X12_fits (pc := 20) rfl) (gI_gf ev1) ?_
    by_cases c2 : v1 ≤ l4
    · rw [if_pos c2] at H
      refine ev_bt hc_X12_fits (fe_X12_fits (pc := 23) rfl) rfl c2 ?_
      refine ev_go hc_X12_fits (k := 2) (pc' := 80) (L' := [.ref l0, .int l1, .int l2, .int l3, .int l4]) (S' := [.int l3, .int l1]) rfl ?_
      by_cases c3 : l3 = 0
      · rw [if_pos c3] at H
        refine ev_bt hc_X12_fits (fe_X12_fits (pc := 80) rfl) rfl c3 ?_
        refine ev_go hc_X12_fits (k := 1) (pc' := 90) (L' := [.ref l0, .int l1, .int l2, .int l3, .int l4]) (S' := [.int 0, .int l1]) rfl ?_
        exact Ev.weak (ci_le_c (Or.inr rfl) (ci_le_c (Or.inl rfl) (ci_le_c (Or.inr rfl) (ci_le_c (Or.inl rfl) (ci_le_c (Or.inl rfl) (ci_le_n)))))) (eb_X12_fits_90 hd h_4 H)
      · rw [if_neg c3] at H
        refine ev_bf hc_X12_fits (fe_X12_fits (pc := 80) rfl) rfl c3 ?_
        refine ev_go hc_X12_fits (k := 4) (pc' := 90) (L' := [.ref l0, .int l1, .int l2, .int l3, .int l4]) (S' := [.int ((1 : Int32) <<< (l2 &&& 31)), .int l1]) rfl ?_
        exact Ev.weak (ci_le_c (Or.inr rfl) (ci_le_c (Or.inl rfl) (ci_le_c (Or.inr rfl) (ci_le_c (Or.inl rfl) (ci_le_c (Or.inl rfl) (ci_le_n)))))) (eb_X12_fits_90 hd h_4 H)
    · rw [if_neg c2] at H
      refine ev_bf hc_X12_fits (fe_X12_fits (pc := 23) rfl) rfl c2 ?_
      refine ev_go hc_X12_fits (k := 1) (pc' := 27) (L' := [.ref l0, .int l1, .int l2, .int l3, .int l4]) (S' := [.int l3]) rfl ?_
      by_cases c4 : l3 = 0
      · rw [if_pos c4] at H
        refine ev_bt hc_X12_fits (fe_X12_fits (pc := 27) rfl) rfl c4 ?_
        exact Ev.weak (ci_le_c (Or.inr rfl) (ci_le_c (Or.inr rfl) (ci_le_c (Or.inr rfl) (ci_le_c (Or.inl rfl) (ci_le_c (Or.inr rfl) (ci_le_n)))))) (eb_X12_fits_70 hd h_4 ih H)
      · rw [if_neg c4] at H
        refine ev_bf hc_X12_fits (fe_X12_fits (pc := 27) rfl) rfl c4 ?_
        refine ev_go hc_X12_fits (k := 1) (pc' := 31) (L' := [.ref l0, .int l1, .int l2, .int l3, .int l4]) (S' := [.ref l0]) rfl ?_
        obtain ⟨v5, ev5, H⟩ := Option.bind_eq_some_iff.mp H
        refine ev_4 hc_X12_fits (fe_X12_fits (pc := 31) rfl) (gR_gf ev5) ?_
        refine ev_go hc_X12_fits (k := 2) (pc' := 37) (L' := [.ref l0, .int l1, .int l2, .int l3, .int l4]) (S' := [.ref l0, .int 24, .ref v5]) rfl ?_
        obtain ⟨v6, ev6, H⟩ := Option.bind_eq_some_iff.mp H
        refine ev_4 hc_X12_fits (fe_X12_fits (pc := 37) rfl) (gR_gf ev6) ?_
        refine ev_go hc_X12_fits (k := 1) (pc' := 42) (L' := [.ref l0, .int l1, .int l2, .int l3, .int l4]) (S' := [.int l4, .ref v6, .int 24, .ref v5]) rfl ?_
        obtain ⟨v7, ev7, H⟩ := Option.bind_eq_some_iff.mp H
        refine ev_4 hc_X12_fits (fe_X12_fits (pc := 42) rfl) (rI_al ev7) ?_
        refine ev_go hc_X12_fits (k := 1) (pc' := 44) (L' := [.ref l0, .int l1, .int l2, .int l3, .int l4]) (S' := [.int (24 + v7), .ref v5]) rfl ?_
        obtain ⟨v8, ev8, H⟩ := Option.bind_eq_some_iff.mp H
        refine ev_4 hc_X12_fits (fe_X12_fits (pc := 44) rfl) (rI_al ev8) ?_
        refine ev_go hc_X12_fits (k := 1) (pc' := 46) (L' := [.ref l0, .int l1, .int l2, .int l3, .int l4]) (S' := [.int l2, .int v8]) rfl ?_
        by_cases c9 : v8 = l2
        · rw [if_pos c9] at H
          refine ev_bt hc_X12_fits (fe_X12_fits (pc := 46) rfl) rfl c9 ?_
          refine ev_go hc_X12_fits (k := 2) (pc' := 54) (L' := [.ref l0, .int l1, .int l2, .int l3, .int l4]) (S' := [.int 1]) rfl ?_
          exact Ev.weak (ci_le_c (Or.inr rfl) (ci_le_c (Or.inr rfl) (ci_le_c (Or.inr rfl) (ci_le_c (Or.inl rfl) (ci_le_c (Or.inr rfl) (ci_le_n)))))) (eb_X12_fits_54 hd h_4 ih H)
        · rw [if_neg c9] at H
          refine ev_bf hc_X12_fits (fe_X12_fits (pc := 46) rfl) rfl c9 ?_
          refine ev_go hc_X12_fits (k := 1) (pc' := 54) (L' := [.ref l0, .int l1, .int l2, .int l3, .int l4]) (S' := [.int 0]) rfl ?_
          exact Ev.weak (ci_le_c (Or.inr rfl) (ci_le_c (Or.inr rfl) (ci_le_c (Or.inr rfl) (ci_le_c (Or.inl rfl) (ci_le_c (Or.inr rfl) (ci_le_n)))))) (eb_X12_fits_54 hd h_4 ih H)
def b_X12_fits_4 (l0 : Nat) : Nat → Int32 → Int32 → ci_H → Option (Int32 × ci_H)
  | 0, _, _, _ => none
  | n + 1, l1, l2, h => (gI h l0 12 1).bind fun v1 => if v1 ≤ l2 then (some (l1, h)) else (b_X12_fits_17 (fun x0 x1 x2 => b_X12_fits_4 l0 n x0 x1 x2) l0 l1 l2 bigN 1 0 h)
set_option maxHeartbeats 4000000 in
set_option maxRecDepth 20000 in
theorem eb_X12_fits_4 {xs : Nat → Int32} {N d : Nat} {nx : ci_N} {l0 : Nat} (hd : 0 ≤ d) : ∀ (n : Nat) (l1 : Int32) (l2 : Int32) (h : ci_H) (r : Int32 × ci_H), b_X12_fits_4 l0 n l1 l2 h = some r → Ev xs N (d + 1) 266 4 [.ref l0, .int l1, .int l2, ci_junk, ci_junk] [] h nx (oI r nx) := by
  intro n
  induction n with
  | zero => intro l1 l2 h r H; unfold b_X12_fits_4 at H; cases H
  | succ n ih =>
    intro l1 l2 h r H
    unfold b_X12_fits_4 at H
    refine ev_go hc_X12_fits (k := 2) (pc' := 6) (L' := [.ref l0, .int l1, .int l2, ci_junk, ci_junk]) (S' := [.ref l0, .int l2]) rfl ?_
    obtain ⟨v1, ev1, H⟩ := Option.bind_eq_some_iff.mp H
    refine ev_4 hc_X12_fits (fe_X12_fits (pc := 6) rfl) (gI_gf ev1) ?_
    by_cases c2 : v1 ≤ l2
    · rw [if_pos c2] at H
      refine ev_bt hc_X12_fits (fe_X12_fits (pc := 9) rfl) rfl c2 ?_
      refine ev_go hc_X12_fits (k := 1) (pc' := 99) (L' := [.ref l0, .int l1, .int l2, ci_junk, ci_junk]) (S' := [.int l1]) rfl ?_
      obtain rfl := Option.some.inj H
      exact ev_8 hc_X12_fits (fe_X12_fits (pc := 99) rfl) rfl
    · rw [if_neg c2] at H
      refine ev_bf hc_X12_fits (fe_X12_fits (pc := 9) rfl) rfl c2 ?_
      refine ev_go hc_X12_fits (k := 4) (pc' := 17) (L' := [.ref l0, .int l1, .int l2, .int 1, .int 0]) (S' := []) rfl ?_
      exact Ev.weak (ci_le_c (Or.inr rfl) (ci_le_c (Or.inr rfl) (ci_le_c (Or.inr rfl) (ci_le_c (Or.inr rfl) (ci_le_c (Or.inr rfl) (ci_le_n)))))) (eb_X12_fits_17 hd ih bigN _ _ _ _ H)
def F_X12_fits (a0 : Nat) (h : ci_H) : Option (Int32 × ci_H) := if kO h a0 = some 12 then (b_X12_fits_4 a0 bigN 0 0 h) else none
theorem K_X12_fits {a0 : Nat} {h : ci_H} {r : Int32 × ci_H} (H : F_X12_fits a0 h = some r) : kO h a0 = some 12 := by
  unfold F_X12_fits at H
  by_cases c : kO h a0 = some 12
  · exact c
  · rw [if_neg c] at H; cases H
set_option maxHeartbeats 4000000 in
set_option maxRecDepth 20000 in
theorem E_X12_fits {xs : Nat → Int32} {N d : Nat} {nx : ci_N} {a0 : Nat} {h : ci_H} {r : Int32 × ci_H} (H : F_X12_fits a0 h = some r) (hd : 1 ≤ d) : Ev xs N d 266 0 (ci_entry [.ref a0] 5) [] h nx (oI r nx) := by
  obtain ⟨d, rfl⟩ : ∃ d2, d = d2 + 1 := ⟨d - 1, by omega⟩
  have hd : 0 ≤ d := by omega
  unfold F_X12_fits at H
  by_cases ck : kO h a0 = some 12
  · rw [if_pos ck] at H
    show Ev xs N (d + 1) 266 0 [.ref a0, ci_junk, ci_junk, ci_junk, ci_junk] [] h nx _
    refine ev_go hc_X12_fits (k := 4) (pc' := 4) (L' := [.ref a0, .int 0, .int 0, ci_junk, ci_junk]) (S' := []) rfl ?_
    exact Ev.weak (ci_le_c (Or.inr rfl) (ci_le_c (Or.inr rfl) (ci_le_c (Or.inr rfl) (ci_le_c (Or.inl rfl) (ci_le_c (Or.inl rfl) (ci_le_n)))))) (eb_X12_fits_4 hd bigN _ _ _ _ H)
  · rw [if_neg ck] at H; cases H
theorem hc_X12_whose : ci_code (ci_Ms 267) = k_X12_whose := rfl
theorem fe_X12_whose {pc : Nat} {w : Option ci_I} (h : (k_X12_whose)[pc]? = some w) : (k_X12_whose)[pc]? = some w := h
def F_X12_whose (a0 : Nat) (h : ci_H) : Option (Int32 × ci_H) := if kO h a0 = some 12 then ((pF h a0 12 11 (.int 0)).bind fun h1 => (pF h1 a0 12 10 (.int 0)).bind fun h2 => (F_X12_fits a0 h2).bind fun q3 => (F_J6_bitCount_0f7a4 q3.1 q3.2).bind fun q4 => (F_X12_tell a0 ((q4.1 : Int32).toInt64) q4.2).bind fun h5 => (F_X12_fits a0 h5).bind fun q6 => some (q6.1, q6.2)) else none
theorem K_X12_whose {a0 : Nat} {h : ci_H} {r : Int32 × ci_H} (H : F_X12_whose a0 h = some r) : kO h a0 = some 12 := by
  unfold F_X12_whose at H
  by_cases c : kO h a0 = some 12
  · exact c
  · rw [if_neg c] at H; cases H
set_option maxHeartbeats 4000000 in
set_option maxRecDepth 20000 in
theorem E_X12_whose {xs : Nat → Int32} {N d : Nat} {nx : ci_N} {a0 : Nat} {h : ci_H} {r : Int32 × ci_H} (H : F_X12_whose a0 h = some r) (hd : 2 ≤ d) : Ev xs N d 267 0 (ci_entry [.ref a0] 1) [] h nx (oI r nx) := by
  obtain ⟨d, rfl⟩ : ∃ d2, d = d2 + 1 := ⟨d - 1, by omega⟩
  have hd : 1 ≤ d := by omega
  unfold F_X12_whose at H
  by_cases ck : kO h a0 = some 12
  · rw [if_pos ck] at H
    show Ev xs N (d + 1) 267 0 [.ref a0] [] h nx _
    refine ev_go hc_X12_whose (k := 2) (pc' := 2) (L' := [.ref a0]) (S' := [.int 0, .ref a0]) rfl ?_
    obtain ⟨h1, eh1, H⟩ := Option.bind_eq_some_iff.mp H
    refine ev_5 hc_X12_whose (fe_X12_whose (pc := 2) rfl) (pF_pf eh1) ?_
    refine ev_go hc_X12_whose (k := 2) (pc' := 7) (L' := [.ref a0]) (S' := [.int 0, .ref a0]) rfl ?_
    obtain ⟨h2, eh2, H⟩ := Option.bind_eq_some_iff.mp H
    refine ev_5 hc_X12_whose (fe_X12_whose (pc := 7) rfl) (pF_pf eh2) ?_
    refine ev_go hc_X12_whose (k := 2) (pc' := 12) (L' := [.ref a0]) (S' := [.ref a0, .ref a0]) rfl ?_
    obtain ⟨q3, eq3, H⟩ := Option.bind_eq_some_iff.mp H
    refine ev_call (vs := [.ref a0]) (rest := [.ref a0]) (q := q_X12_fits) hc_X12_whose (Or.inr rfl) (fe_X12_whose (pc := 12) rfl) ms_266 rfl rfl (Nat.le_of_ble_eq_true rfl) (kO_recv (K_X12_fits eq3)) (E_X12_fits eq3 (by omega)) rfl ?_
    show Ev xs N (d + 1) 267 15 [.ref a0] [.int q3.1, .ref a0] q3.2 nx _
    obtain ⟨q4, eq4, H⟩ := Option.bind_eq_some_iff.mp H
    refine ev_call (vs := [.int q3.1]) (rest := [.ref a0]) (q := q_J6_bitCount_0f7a4) hc_X12_whose (Or.inl rfl) (fe_X12_whose (pc := 15) rfl) ms_285 rfl rfl (Nat.le_of_ble_eq_true rfl) rfl (E_J6_bitCount_0f7a4 eq4 (by omega)) rfl ?_
    show Ev xs N (d + 1) 267 18 [.ref a0] [.int q4.1, .ref a0] q4.2 nx _
    refine ev_go hc_X12_whose (k := 1) (pc' := 19) (L' := [.ref a0]) (S' := [.long ((q4.1 : Int32).toInt64), .ref a0]) rfl ?_
    obtain ⟨h5, eh5, H⟩ := Option.bind_eq_some_iff.mp H
    refine ev_call (vs := [.ref a0, .long ((q4.1 : Int32).toInt64)]) (rest := []) (q := q_X12_tell) hc_X12_whose (Or.inr rfl) (fe_X12_whose (pc := 19) rfl) ms_173 rfl rfl (Nat.le_of_ble_eq_true rfl) (kO_recv (K_X12_tell eh5)) (E_X12_tell eh5 (by omega)) rfl ?_
    show Ev xs N (d + 1) 267 22 [.ref a0] [] h5 nx _
    refine ev_go hc_X12_whose (k := 1) (pc' := 23) (L' := [.ref a0]) (S' := [.ref a0]) rfl ?_
    obtain ⟨q6, eq6, H⟩ := Option.bind_eq_some_iff.mp H
    refine ev_call (vs := [.ref a0]) (rest := []) (q := q_X12_fits) hc_X12_whose (Or.inr rfl) (fe_X12_whose (pc := 23) rfl) ms_266 rfl rfl (Nat.le_of_ble_eq_true rfl) (kO_recv (K_X12_fits eq6)) (E_X12_fits eq6 (by omega)) rfl ?_
    show Ev xs N (d + 1) 267 26 [.ref a0] [.int q6.1] q6.2 nx _
    obtain rfl := Option.some.inj H
    exact ev_8 hc_X12_whose (fe_X12_whose (pc := 26) rfl) rfl
  · rw [if_neg ck] at H; cases H
theorem hc_X12_ask : ci_code (ci_Ms 268) = k_X12_ask := rfl
theorem fe_X12_ask {pc : Nat} {w : Option ci_I} (h : (k_X12_ask)[pc]? = some w) : (k_X12_ask)[pc]? = some w := h
def b_X12_ask_108 (r_33 : Int32 → Int32 → Int32 → ci_H → Option (Int32 × ci_H)) (l0 : Nat) (l1 : Int32) (l2 : Int32) (l3 : Int32) (l4 : Int32)  (h : ci_H) : Option (Int32 × ci_H) := r_33 l2 l3 (l4 + 1) h
set_option maxHeartbeats 4000000 in
set_option maxRecDepth 20000 in
theorem eb_X12_ask_108 {xs : Nat → Int32} {N d : Nat} {nx : ci_N} {r_33 : Int32 → Int32 → Int32 → ci_H → Option (Int32 × ci_H)} {l0 : Nat} {l1 : Int32} {l2 : Int32} {l3 : Int32} {l4 : Int32} (hd : 1 ≤ d) (h_33 : ∀ (l2 : Int32) (l3 : Int32) (l4 : Int32) (h : ci_H) (r : Int32 × ci_H), r_33 l2 l3 l4 h = some r → Ev xs N (d + 1) 268 33 [.ref l0, .int l1, .int l2, .int l3, .int l4, ci_junk, ci_junk] [] h nx (oI r nx)) {h : ci_H} {r : Int32 × ci_H} (H : b_X12_ask_108 r_33 l0 l1 l2 l3 l4 h = some r) : Ev xs N (d + 1) 268 108 [.ref l0, .int l1, .int l2, .int l3, .int l4, ci_junk, ci_junk] [] h nx (oI r nx) := by
  unfold b_X12_ask_108 at H
  refine ev_go hc_X12_ask (k := 2) (pc' := 33) (L' := [.ref l0, .int l1, .int l2, .int l3, .int (l4 + 1), ci_junk, ci_junk]) (S' := []) rfl ?_
  exact Ev.weak (ci_le_c (Or.inr rfl) (ci_le_c (Or.inr rfl) (ci_le_c (Or.inr rfl) (ci_le_c (Or.inr rfl) (ci_le_c (Or.inr rfl) (ci_le_c (Or.inl rfl) (ci_le_c (Or.inl rfl) (ci_le_n)))))))) (h_33 _ _ _ _ _ H)
def b_X12_ask_77 (r_33 : Int32 → Int32 → Int32 → ci_H → Option (Int32 × ci_H)) (l0 : Nat) (l1 : Int32) (l2 : Int32) (l3 : Int32) (l4 : Int32) (s0 : Int32)  (h : ci_H) : Option (Int32 × ci_H) := (F_J6_bitCount_0f7a4 l1 h).bind fun q1 => if (if s0 < (q1.1 - s0) then q1.1 - s0 else s0) < l3 then (b_X12_ask_108 r_33 l0 l1 l4 (if s0 < (q1.1 - s0) then q1.1 - s0 else s0) l4 q1.2) else (b_X12_ask_108 r_33 l0 l1 l2 l3 l4 q1.2)
set_option maxHeartbeats 4000000 in
set_option maxRecDepth 20000 in
theorem eb_X12_ask_77 {xs : Nat → Int32} {N d : Nat} {nx : ci_N} {r_33 : Int32 → Int32 → Int32 → ci_H → Option (Int32 × ci_H)} {l0 : Nat} {l1 : Int32} {l2 : Int32} {l3 : Int32} {l4 : Int32} {s0 : Int32} (hd : 1 ≤ d) (h_33 : ∀ (l2 : Int32) (l3 : Int32) (l4 : Int32) (h : ci_H) (r : Int32 × ci_H), r_33 l2 l3 l4 h = some r → Ev xs N (d + 1) 268 33 [.ref l0, .int l1, .int l2, .int l3, .int l4, ci_junk, ci_junk] [] h nx (oI r nx)) {h : ci_H} {r : Int32 × ci_H} (H : b_X12_ask_77 r_33 l0 l1 l2 l3 l4 s0 h = some r) : Ev xs N (d + 1) 268 77 [.ref l0, .int l1, .int l2, .int l3, .int l4, ci_junk, ci_junk] [.int s0] h nx (oI r nx) := by
  unfold b_X12_ask_77 at H
  refine ev_go hc_X12_ask (k := 3) (pc' := 82) (L' := [.ref l0, .int l1, .int l2, .int l3, .int l4, .int s0, ci_junk]) (S' := [.int l1, .int s0]) rfl ?_
  obtain ⟨q1, eq1, H⟩ := Option.bind_eq_some_iff.mp H
  refine ev_call (vs := [.int l1]) (rest := [.int s0]) (q := q_J6_bitCount_0f7a4) hc_X12_ask (Or.inl rfl) (fe_X12_ask (pc := 82) rfl) ms_285 rfl rfl (Nat.le_of_ble_eq_true rfl) rfl (E_J6_bitCount_0f7a4 eq1 (by omega)) rfl ?_
  show Ev xs N (d + 1) 268 85 [.ref l0, .int l1, .int l2, .int l3, .int l4, .int s0, ci_junk] [.int q1.1, .int s0] q1.2 nx _
  refine ev_go hc_X12_ask (k := 2) (pc' := 88) (L' := [.ref l0, .int l1, .int l2, .int l3, .int l4, .int s0, ci_junk]) (S' := [.int (q1.1 - s0), .int s0]) rfl ?_
  refine ev_15 hc_X12_ask (fe_X12_ask (pc := 88) rfl) (S' := [.int (if s0 < (q1.1 - s0) then q1.1 - s0 else s0)]) rfl ?_
  refine ev_go hc_X12_ask (k := 3) (pc' := 96) (L' := [.ref l0, .int l1, .int l2, .int l3, .int l4, .int s0, .int (if s0 < (q1.1 - s0) then q1.1 - s0 else s0)]) (S' := [.int l3, .int (if s0 < (q1.1 - s0) then q1.1 - s0 else s0)]) rfl ?_
  by_cases c2 : (if s0 < (q1.1 - s0) then q1.1 - s0 else s0) < l3
  · rw [if_pos c2] at H
    refine ev_bt hc_X12_ask (fe_X12_ask (pc := 96) rfl) rfl c2 ?_
    refine ev_go hc_X12_ask (k := 4) (pc' := 108) (L' := [.ref l0, .int l1, .int l4, .int (if s0 < (q1.1 - s0) then q1.1 - s0 else s0), .int l4, .int s0, .int (if s0 < (q1.1 - s0) then q1.1 - s0 else s0)]) (S' := []) rfl ?_
    exact Ev.weak (ci_le_c (Or.inr rfl) (ci_le_c (Or.inr rfl) (ci_le_c (Or.inr rfl) (ci_le_c (Or.inr rfl) (ci_le_c (Or.inr rfl) (ci_le_c (Or.inl rfl) (ci_le_c (Or.inl rfl) (ci_le_n)))))))) (eb_X12_ask_108 hd h_33 H)
  · rw [if_neg c2] at H
    refine ev_bf hc_X12_ask (fe_X12_ask (pc := 96) rfl) rfl c2 ?_
    refine ev_go hc_X12_ask (k := 1) (pc' := 108) (L' := [.ref l0, .int l1, .int l2, .int l3, .int l4, .int s0, .int (if s0 < (q1.1 - s0) then q1.1 - s0 else s0)]) (S' := []) rfl ?_
    exact Ev.weak (ci_le_c (Or.inr rfl) (ci_le_c (Or.inr rfl) (ci_le_c (Or.inr rfl) (ci_le_c (Or.inr rfl) (ci_le_c (Or.inr rfl) (ci_le_c (Or.inl rfl) (ci_le_c (Or.inl rfl) (ci_le_n)))))))) (eb_X12_ask_108 hd h_33 H)
def b_X12_ask_76 (r_33 : Int32 → Int32 → Int32 → ci_H → Option (Int32 × ci_H)) (l0 : Nat) (l1 : Int32) (l2 : Int32) (l3 : Int32) (l4 : Int32)  (h : ci_H) : Option (Int32 × ci_H) := b_X12_ask_77 r_33 l0 l1 l2 l3 l4 0 h
set_option maxHeartbeats 4000000 in
set_option maxRecDepth 20000 in
theorem eb_X12_ask_76 {xs : Nat → Int32} {N d : Nat} {nx : ci_N} {r_33 : Int32 → Int32 → Int32 → ci_H → Option (Int32 × ci_H)} {l0 : Nat} {l1 : Int32} {l2 : Int32} {l3 : Int32} {l4 : Int32} (hd : 1 ≤ d) (h_33 : ∀ (l2 : Int32) (l3 : Int32) (l4 : Int32) (h : ci_H) (r : Int32 × ci_H), r_33 l2 l3 l4 h = some r → Ev xs N (d + 1) 268 33 [.ref l0, .int l1, .int l2, .int l3, .int l4, ci_junk, ci_junk] [] h nx (oI r nx)) {h : ci_H} {r : Int32 × ci_H} (H : b_X12_ask_76 r_33 l0 l1 l2 l3 l4 h = some r) : Ev xs N (d + 1) 268 76 [.ref l0, .int l1, .int l2, .int l3, .int l4, ci_junk, ci_junk] [] h nx (oI r nx) := by
  unfold b_X12_ask_76 at H
  refine ev_go hc_X12_ask (k := 1) (pc' := 77) (L' := [.ref l0, .int l1, .int l2, .int l3, .int l4, ci_junk, ci_junk]) (S' := [.int 0]) rfl ?_
  exact Ev.weak (ci_le_c (Or.inr rfl) (ci_le_c (Or.inr rfl) (ci_le_c (Or.inr rfl) (ci_le_c (Or.inr rfl) (ci_le_c (Or.inr rfl) (ci_le_c (Or.inl rfl) (ci_le_c (Or.inl rfl) (ci_le_n)))))))) (eb_X12_ask_77 hd h_33 H)
def b_X12_ask_33 (l0 : Nat) (l1 : Int32) : Nat → Int32 → Int32 → Int32 → ci_H → Option (Int32 × ci_H)
  | 0, _, _, _, _ => none
  | n + 1, l2, l3, l4, h => (gI h l0 12 2).bind fun v1 => if v1 ≤ l4 then ((pF h l0 12 10 (.int 0)).bind fun h3 => (F_X12_tell l0 ((l3 : Int32).toInt64) h3).bind fun h4 => some (l2, h4)) else ((gR h l0 12 0).bind fun v5 => (rI h v5 (24 + l4)).bind fun v6 => if v6 < 0 then (b_X12_ask_76 (fun x0 x1 x2 x3 => b_X12_ask_33 l0 l1 n x0 x1 x2 x3) l0 l1 l2 l3 l4 h) else ((gR h l0 12 0).bind fun v8 => (rI h v8 (24 + l4)).bind fun v9 => (F_X12_has l1 v9 h).bind fun q10 => if q10.1 = 0 then (b_X12_ask_76 (fun x0 x1 x2 x3 => b_X12_ask_33 l0 l1 n x0 x1 x2 x3) l0 l1 l2 l3 l4 q10.2) else (b_X12_ask_77 (fun x0 x1 x2 x3 => b_X12_ask_33 l0 l1 n x0 x1 x2 x3) l0 l1 l2 l3 l4 1 q10.2)))
set_option maxHeartbeats 4000000 in
set_option maxRecDepth 20000 in
theorem eb_X12_ask_33 {xs : Nat → Int32} {N d : Nat} {nx : ci_N} {l0 : Nat} {l1 : Int32} (hd : 1 ≤ d) : ∀ (n : Nat) (l2 : Int32) (l3 : Int32) (l4 : Int32) (h : ci_H) (r : Int32 × ci_H), b_X12_ask_33 l0 l1 n l2 l3 l4 h = some r → Ev xs N (d + 1) 268 33 [.ref l0, .int l1, .int l2, .int l3, .int l4, ci_junk, ci_junk] [] h nx (oI r nx) := by
  intro n
  induction n with
  | zero => intro l2 l3 l4 h r H; unfold b_X12_ask_33 at H; cases H
  | succ n ih =>
    intro l2 l3 l4 h r H
    unfold b_X12_ask_33 at H
    refine ev_go hc_X12_ask (k := 2) (pc' := 36) (L' := [.ref l0, .int l1, .int l2, .int l3, .int l4, ci_junk, ci_junk]) (S' := [.ref l0, .int l4]) rfl ?_
    obtain ⟨v1, ev1, H⟩ := Option.bind_eq_some_iff.mp H
    refine ev_4 hc_X12_ask (fe_X12_ask (pc := 36) rfl) (gI_gf ev1) ?_
    by_cases c2 : v1 ≤ l4
    · rw [if_pos c2] at H
      refine ev_bt hc_X12_ask (fe_X12_ask (pc := 39) rfl) rfl c2 ?_
      refine ev_go hc_X12_ask (k := 2) (pc' := 116) (L' := [.ref l0, .int l1, .int l2, .int l3, .int l4, ci_junk, ci_junk]) (S' := [.int 0, .ref l0]) rfl ?_
      obtain ⟨h3, eh3, H⟩ := Option.bind_eq_some_iff.mp H
      refine ev_5 hc_X12_ask (fe_X12_ask (pc := 116) rfl) (pF_pf eh3) ?_
      refine ev_go hc_X12_ask (k := 3) (pc' := 122) (L' := [.ref l0, .int l1, .int l2, .int l3, .int l4, ci_junk, ci_junk]) (S' := [.long ((l3 : Int32).toInt64), .ref l0]) rfl ?_
      obtain ⟨h4, eh4, H⟩ := Option.bind_eq_some_iff.mp H
      refine ev_call (vs := [.ref l0, .long ((l3 : Int32).toInt64)]) (rest := []) (q := q_X12_tell) hc_X12_ask (Or.inr rfl) (fe_X12_ask (pc := 122) rfl) ms_173 rfl rfl (Nat.le_of_ble_eq_true rfl) (kO_recv (K_X12_tell eh4)) (E_X12_tell eh4 (by omega)) rfl ?_
      show Ev xs N (d + 1) 268 125 [.ref l0, .int l1, .int l2, .int l3, .int l4, ci_junk, ci_junk] [] h4 nx _
      refine ev_go hc_X12_ask (k := 1) (pc' := 126) (L' := [.ref l0, .int l1, .int l2, .int l3, .int l4, ci_junk, ci_junk]) (S' := [.int l2]) rfl ?_
      obtain rfl := Option.some.inj H
      exact ev_8 hc_X12_ask (fe_X12_ask (pc := 126) rfl) rfl
    · rw [if_neg c2] at H
      refine ev_bf hc_X12_ask (fe_X12_ask (pc := 39) rfl) rfl c2 ?_
      refine ev_go hc_X12_ask (k := 1) (pc' := 43) (L' := [.ref l0, .int l1, .int l2, .int l3, .int l4, ci_junk, ci_junk]) (S' := [.ref l0]) rfl ?_
      obtain ⟨v5, ev5, H⟩ := Option.bind_eq_some_iff.mp H
      refine ev_4 hc_X12_ask (fe_X12_ask (pc := 43) rfl) (gR_gf ev5) ?_
      refine ev_go hc_X12_ask (k := 3) (pc' := 51) (L' := [.ref l0, .int l1, .int l2, .int l3, .int l4, ci_junk, ci_junk]) (S' := [.int (24 + l4), .ref v5]) rfl ?_
      obtain ⟨v6, ev6, H⟩ := Option.bind_eq_some_iff.mp H
      refine ev_4 hc_X12_ask (fe_X12_ask (pc := 51) rfl) (rI_al ev6) ?_
      by_cases c7 : v6 < 0
      · rw [if_pos c7] at H
        refine ev_bt hc_X12_ask (fe_X12_ask (pc := 52) rfl) rfl c7 ?_
        exact Ev.weak (ci_le_c (Or.inr rfl) (ci_le_c (Or.inr rfl) (ci_le_c (Or.inr rfl) (ci_le_c (Or.inr rfl) (ci_le_c (Or.inr rfl) (ci_le_c (Or.inl rfl) (ci_le_c (Or.inl rfl) (ci_le_n)))))))) (eb_X12_ask_76 hd ih H)
      · rw [if_neg c7] at H
        refine ev_bf hc_X12_ask (fe_X12_ask (pc := 52) rfl) rfl c7 ?_
        refine ev_go hc_X12_ask (k := 2) (pc' := 57) (L' := [.ref l0, .int l1, .int l2, .int l3, .int l4, ci_junk, ci_junk]) (S' := [.ref l0, .int l1]) rfl ?_
        obtain ⟨v8, ev8, H⟩ := Option.bind_eq_some_iff.mp H
        refine ev_4 hc_X12_ask (fe_X12_ask (pc := 57) rfl) (gR_gf ev8) ?_
        refine ev_go hc_X12_ask (k := 3) (pc' := 65) (L' := [.ref l0, .int l1, .int l2, .int l3, .int l4, ci_junk, ci_junk]) (S' := [.int (24 + l4), .ref v8, .int l1]) rfl ?_
        obtain ⟨v9, ev9, H⟩ := Option.bind_eq_some_iff.mp H
        refine ev_4 hc_X12_ask (fe_X12_ask (pc := 65) rfl) (rI_al ev9) ?_
        obtain ⟨q10, eq10, H⟩ := Option.bind_eq_some_iff.mp H
        refine ev_call (vs := [.int l1, .int v9]) (rest := []) (q := q_X12_has) hc_X12_ask (Or.inl rfl) (fe_X12_ask (pc := 66) rfl) ms_171 rfl rfl (Nat.le_of_ble_eq_true rfl) rfl (E_X12_has eq10 (by omega)) rfl ?_
        show Ev xs N (d + 1) 268 69 [.ref l0, .int l1, .int l2, .int l3, .int l4, ci_junk, ci_junk] [.int q10.1] q10.2 nx _
        by_cases c11 : q10.1 = 0
        · rw [if_pos c11] at H
          refine ev_bt hc_X12_ask (fe_X12_ask (pc := 69) rfl) rfl c11 ?_
          exact Ev.weak (ci_le_c (Or.inr rfl) (ci_le_c (Or.inr rfl) (ci_le_c (Or.inr rfl) (ci_le_c (Or.inr rfl) (ci_le_c (Or.inr rfl) (ci_le_c (Or.inl rfl) (ci_le_c (Or.inl rfl) (ci_le_n)))))))) (eb_X12_ask_76 hd ih H)
        · rw [if_neg c11] at H
          refine ev_bf hc_X12_ask (fe_X12_ask (pc := 69) rfl) rfl c11 ?_
          refine ev_go hc_X12_ask (k := 2) (pc' := 77) (L' := [.ref l0, .int l1, .int l2, .int l3, .int l4, ci_junk, ci_junk]) (S' := [.int 1]) rfl ?_
          exact Ev.weak (ci_le_c (Or.inr rfl) (ci_le_c (Or.inr rfl) (ci_le_c (Or.inr rfl) (ci_le_c (Or.inr rfl) (ci_le_c (Or.inr rfl) (ci_le_c (Or.inl rfl) (ci_le_c (Or.inl rfl) (ci_le_n)))))))) (eb_X12_ask_77 hd ih H)
def F_X12_ask (a0 : Nat) (h : ci_H) : Option (Int32 × ci_H) := if kO h a0 = some 12 then ((pF h a0 12 11 (.int 0)).bind fun h1 => (F_X12_fits a0 h1).bind fun q2 => if q2.1 = 0 then (some ((-2), q2.2)) else ((gI q2.2 a0 12 2).bind fun v4 => if v4 = 0 then (some ((-2), q2.2)) else (b_X12_ask_33 a0 q2.1 bigN ((-1)) 1000000 0 q2.2))) else none
theorem K_X12_ask {a0 : Nat} {h : ci_H} {r : Int32 × ci_H} (H : F_X12_ask a0 h = some r) : kO h a0 = some 12 := by
  unfold F_X12_ask at H
  by_cases c : kO h a0 = some 12
  · exact c
  · rw [if_neg c] at H; cases H
set_option maxHeartbeats 4000000 in
set_option maxRecDepth 20000 in
theorem E_X12_ask {xs : Nat → Int32} {N d : Nat} {nx : ci_N} {a0 : Nat} {h : ci_H} {r : Int32 × ci_H} (H : F_X12_ask a0 h = some r) (hd : 2 ≤ d) : Ev xs N d 268 0 (ci_entry [.ref a0] 7) [] h nx (oI r nx) := by
  obtain ⟨d, rfl⟩ : ∃ d2, d = d2 + 1 := ⟨d - 1, by omega⟩
  have hd : 1 ≤ d := by omega
  unfold F_X12_ask at H
  by_cases ck : kO h a0 = some 12
  · rw [if_pos ck] at H
    show Ev xs N (d + 1) 268 0 [.ref a0, ci_junk, ci_junk, ci_junk, ci_junk, ci_junk, ci_junk] [] h nx _
    refine ev_go hc_X12_ask (k := 2) (pc' := 2) (L' := [.ref a0, ci_junk, ci_junk, ci_junk, ci_junk, ci_junk, ci_junk]) (S' := [.int 0, .ref a0]) rfl ?_
    obtain ⟨h1, eh1, H⟩ := Option.bind_eq_some_iff.mp H
    refine ev_5 hc_X12_ask (fe_X12_ask (pc := 2) rfl) (pF_pf eh1) ?_
    refine ev_go hc_X12_ask (k := 1) (pc' := 6) (L' := [.ref a0, ci_junk, ci_junk, ci_junk, ci_junk, ci_junk, ci_junk]) (S' := [.ref a0]) rfl ?_
    obtain ⟨q2, eq2, H⟩ := Option.bind_eq_some_iff.mp H
    refine ev_call (vs := [.ref a0]) (rest := []) (q := q_X12_fits) hc_X12_ask (Or.inr rfl) (fe_X12_ask (pc := 6) rfl) ms_266 rfl rfl (Nat.le_of_ble_eq_true rfl) (kO_recv (K_X12_fits eq2)) (E_X12_fits eq2 (by omega)) rfl ?_
    show Ev xs N (d + 1) 268 9 [.ref a0, ci_junk, ci_junk, ci_junk, ci_junk, ci_junk, ci_junk] [.int q2.1] q2.2 nx _
    refine ev_go hc_X12_ask (k := 2) (pc' := 11) (L' := [.ref a0, .int q2.1, ci_junk, ci_junk, ci_junk, ci_junk, ci_junk]) (S' := [.int q2.1]) rfl ?_
    by_cases c3 : q2.1 = 0
    · rw [if_pos c3] at H
      refine ev_bt hc_X12_ask (fe_X12_ask (pc := 11) rfl) rfl c3 ?_
      refine ev_go hc_X12_ask (k := 1) (pc' := 23) (L' := [.ref a0, .int q2.1, ci_junk, ci_junk, ci_junk, ci_junk, ci_junk]) (S' := [.int ((-2))]) rfl ?_
      obtain rfl := Option.some.inj H
      exact ev_8 hc_X12_ask (fe_X12_ask (pc := 23) rfl) rfl
    · rw [if_neg c3] at H
      refine ev_bf hc_X12_ask (fe_X12_ask (pc := 11) rfl) rfl c3 ?_
      refine ev_go hc_X12_ask (k := 1) (pc' := 15) (L' := [.ref a0, .int q2.1, ci_junk, ci_junk, ci_junk, ci_junk, ci_junk]) (S' := [.ref a0]) rfl ?_
      obtain ⟨v4, ev4, H⟩ := Option.bind_eq_some_iff.mp H
      refine ev_4 hc_X12_ask (fe_X12_ask (pc := 15) rfl) (gI_gf ev4) ?_
      by_cases c5 : v4 = 0
      · rw [if_pos c5] at H
        refine ev_bt hc_X12_ask (fe_X12_ask (pc := 18) rfl) rfl c5 ?_
        refine ev_go hc_X12_ask (k := 1) (pc' := 23) (L' := [.ref a0, .int q2.1, ci_junk, ci_junk, ci_junk, ci_junk, ci_junk]) (S' := [.int ((-2))]) rfl ?_
        obtain rfl := Option.some.inj H
        exact ev_8 hc_X12_ask (fe_X12_ask (pc := 23) rfl) rfl
      · rw [if_neg c5] at H
        refine ev_bf hc_X12_ask (fe_X12_ask (pc := 18) rfl) rfl c5 ?_
        refine ev_go hc_X12_ask (k := 6) (pc' := 33) (L' := [.ref a0, .int q2.1, .int ((-1)), .int 1000000, .int 0, ci_junk, ci_junk]) (S' := []) rfl ?_
        exact Ev.weak (ci_le_c (Or.inr rfl) (ci_le_c (Or.inr rfl) (ci_le_c (Or.inr rfl) (ci_le_c (Or.inr rfl) (ci_le_c (Or.inr rfl) (ci_le_c (Or.inl rfl) (ci_le_c (Or.inl rfl) (ci_le_n)))))))) (eb_X12_ask_33 hd bigN _ _ _ _ _ H)
  · rw [if_neg ck] at H; cases H
def mg_X12_common (j : Nat) : Nat := match j with

  | _ => 269
theorem hc_X12_common : ci_code (ci_Ms 269) = k_X12_common := rfl
theorem fe_X12_common {pc : Nat} {w : Option ci_I} (h : (k_X12_common)[pc]? = some w) : (k_X12_common)[pc]? = some w := h
def G_X12_common (rc : Nat → Int64 → Int64 → ci_H → Option (Int64 × ci_H)) (a0 : Int64) (a1 : Int64) (h : ci_H) : Option (Int64 × ci_H) := if (lg_cmp a1 (Int64.ofNat 0)) = 0 then (some (a0, h)) else ((rmL a0 a1).bind fun v2 => (rc 0 a1 v2 h).bind fun q3 => some (q3.1, q3.2))
set_option maxHeartbeats 4000000 in
set_option maxRecDepth 20000 in
theorem EG_X12_common {xs : Nat → Int32} {N d : Nat} {nx : ci_N} {rc : Nat → Int64 → Int64 → ci_H → Option (Int64 × ci_H)} {a0 : Int64} {a1 : Int64} (hd : 0 ≤ d) (hrc : ∀ (j : Nat) (a0 : Int64) (a1 : Int64) (h : ci_H) (r : Int64 × ci_H), rc j a0 a1 h = some r → Ev xs N d (mg_X12_common j) 0 (ci_entry [.long a0, .long a1] (ci_n (ci_Ms (mg_X12_common j)))) [] h nx (oL r nx)) {h : ci_H} {r : Int64 × ci_H} (H : G_X12_common rc a0 a1 h = some r) : Ev xs N (d + 1) 269 0 (ci_entry [.long a0, .long a1] 4) [] h nx (oL r nx) := by
  unfold G_X12_common at H
  show Ev xs N (d + 1) 269 0 [.long a0, ci_junk, .long a1, ci_junk] [] h nx _
  refine ev_go hc_X12_common (k := 3) (pc' := 3) (L' := [.long a0, ci_junk, .long a1, ci_junk]) (S' := [.int (lg_cmp a1 (Int64.ofNat 0))]) rfl ?_
  by_cases c1 : (lg_cmp a1 (Int64.ofNat 0)) = 0
  · rw [if_pos c1] at H
    refine ev_bt hc_X12_common (fe_X12_common (pc := 3) rfl) rfl c1 ?_
    refine ev_go hc_X12_common (k := 2) (pc' := 17) (L' := [.long a0, ci_junk, .long a1, ci_junk]) (S' := [.long a0]) rfl ?_
    obtain rfl := Option.some.inj H
    exact ev_8 hc_X12_common (fe_X12_common (pc := 17) rfl) rfl
  · rw [if_neg c1] at H
    refine ev_bf hc_X12_common (fe_X12_common (pc := 3) rfl) rfl c1 ?_
    refine ev_go hc_X12_common (k := 3) (pc' := 13) (L' := [.long a0, ci_junk, .long a1, ci_junk]) (S' := [.long a1, .long a0, .long a1]) rfl ?_
    obtain ⟨v2, ev2, H⟩ := Option.bind_eq_some_iff.mp H
    refine ev_1 hc_X12_common (fe_X12_common (pc := 13) rfl) (rmL_st ev2) ?_
    obtain ⟨q3, eq3, H⟩ := Option.bind_eq_some_iff.mp H
    refine ev_call (vs := [.long a1, .long v2]) (rest := []) (q := q_X12_common) hc_X12_common (Or.inl rfl) (fe_X12_common (pc := 14) rfl) ms_269 rfl rfl (Nat.le_of_ble_eq_true rfl) rfl (hrc 0 _ _ _ _ eq3) rfl ?_
    show Ev xs N (d + 1) 269 17 [.long a0, ci_junk, .long a1, ci_junk] [.long q3.1] q3.2 nx _
    obtain rfl := Option.some.inj H
    exact ev_8 hc_X12_common (fe_X12_common (pc := 17) rfl) rfl
def FG_X12_common : Nat → Nat → Int64 → Int64 → ci_H → Option (Int64 × ci_H)
  | 0, _, _, _, _ => none
  | n + 1, j, a0, a1, h => match j with
    | _ => G_X12_common (fun j a0 a1 h => FG_X12_common n j a0 a1 h) a0 a1 h
theorem EGG_X12_common {xs : Nat → Int32} {N : Nat} {nx : ci_N} : ∀ (n d j : Nat) (a0 : Int64) (a1 : Int64) (h : ci_H) (r : Int64 × ci_H), FG_X12_common n j a0 a1 h = some r → n + 1 ≤ d → Ev xs N d (mg_X12_common j) 0 (ci_entry [.long a0, .long a1] (ci_n (ci_Ms (mg_X12_common j)))) [] h nx (oL r nx) := by
  intro n
  induction n with
  | zero => intro d j a0 a1 h r H; cases H
  | succ n ih =>
    intro d j a0 a1 h r H hd
    obtain ⟨d, rfl⟩ : ∃ d2, d = d2 + 1 := ⟨d - 1, by omega⟩
    match j, H with
    | j, H => exact EG_X12_common (by omega) (fun j a0 a1 h r H => ih d j a0 a1 h r H (by omega))  H
def F_X12_common (a0 : Int64) (a1 : Int64) (h : ci_H) : Option (Int64 × ci_H) := FG_X12_common recN 0 a0 a1 h
theorem E_X12_common {xs : Nat → Int32} {N d : Nat} {nx : ci_N} {a0 : Int64} {a1 : Int64} {h : ci_H} {r : Int64 × ci_H} (H : F_X12_common a0 a1 h = some r) (hd : 101 ≤ d) : Ev xs N d 269 0 (ci_entry [.long a0, .long a1] 4) [] h nx (oL r nx) := EGG_X12_common recN d 0 _ _ h r H (by unfold recN; omega)
theorem hc_X12_seesBy : ci_code (ci_Ms 270) = k_X12_seesBy := rfl
theorem fe_X12_seesBy {pc : Nat} {w : Option ci_I} (h : (k_X12_seesBy)[pc]? = some w) : (k_X12_seesBy)[pc]? = some w := h
def b_X12_seesBy_100 (r_13 : Int32 → ci_H → Option (ci_H)) (l0 : Nat) (l1 : Int32) (l2 : Int32) (l3 : Int32) (l4 : Int32)  (h : ci_H) : Option (ci_H) := r_13 (l4 + 1) h
set_option maxHeartbeats 4000000 in
set_option maxRecDepth 20000 in
theorem eb_X12_seesBy_100 {xs : Nat → Int32} {N d : Nat} {nx : ci_N} {r_13 : Int32 → ci_H → Option (ci_H)} {l0 : Nat} {l1 : Int32} {l2 : Int32} {l3 : Int32} {l4 : Int32} (hd : 0 ≤ d) (h_13 : ∀ (l4 : Int32) (h : ci_H) (r : ci_H), r_13 l4 h = some r → Ev xs N (d + 1) 270 13 [.ref l0, .int l1, .int l2, .int l3, .int l4] [] h nx (oV r nx)) {h : ci_H} {r : ci_H} (H : b_X12_seesBy_100 r_13 l0 l1 l2 l3 l4 h = some r) : Ev xs N (d + 1) 270 100 [.ref l0, .int l1, .int l2, .int l3, .int l4] [] h nx (oV r nx) := by
  unfold b_X12_seesBy_100 at H
  refine ev_go hc_X12_seesBy (k := 2) (pc' := 13) (L' := [.ref l0, .int l1, .int l2, .int l3, .int (l4 + 1)]) (S' := []) rfl ?_
  exact Ev.weak (ci_le_c (Or.inr rfl) (ci_le_c (Or.inr rfl) (ci_le_c (Or.inr rfl) (ci_le_c (Or.inr rfl) (ci_le_c (Or.inr rfl) (ci_le_n)))))) (h_13 _ _ _ H)
def b_X12_seesBy_84 (r_13 : Int32 → ci_H → Option (ci_H)) (l0 : Nat) (l1 : Int32) (l2 : Int32) (l3 : Int32) (l4 : Int32) (s0 : Nat) (s1 : Int64) (s2 : Int64)  (h : ci_H) : Option (ci_H) := (pF h s0 12 35 (.long (s1 * s2))).bind fun h1 => (gL h1 l0 12 36).bind fun v2 => (pF h1 l0 12 36 (.long (v2 * (Int64.ofNat 10)))).bind fun h3 => b_X12_seesBy_100 r_13 l0 l1 l2 l3 l4 h3
set_option maxHeartbeats 4000000 in
set_option maxRecDepth 20000 in
theorem eb_X12_seesBy_84 {xs : Nat → Int32} {N d : Nat} {nx : ci_N} {r_13 : Int32 → ci_H → Option (ci_H)} {l0 : Nat} {l1 : Int32} {l2 : Int32} {l3 : Int32} {l4 : Int32} {s0 : Nat} {s1 : Int64} {s2 : Int64} (hd : 0 ≤ d) (h_13 : ∀ (l4 : Int32) (h : ci_H) (r : ci_H), r_13 l4 h = some r → Ev xs N (d + 1) 270 13 [.ref l0, .int l1, .int l2, .int l3, .int l4] [] h nx (oV r nx)) {h : ci_H} {r : ci_H} (H : b_X12_seesBy_84 r_13 l0 l1 l2 l3 l4 s0 s1 s2 h = some r) : Ev xs N (d + 1) 270 84 [.ref l0, .int l1, .int l2, .int l3, .int l4] [.long s2, .long s1, .ref s0] h nx (oV r nx) := by
  unfold b_X12_seesBy_84 at H
  refine ev_go hc_X12_seesBy (k := 1) (pc' := 85) (L' := [.ref l0, .int l1, .int l2, .int l3, .int l4]) (S' := [.long (s1 * s2), .ref s0]) rfl ?_
  obtain ⟨h1, eh1, H⟩ := Option.bind_eq_some_iff.mp H
  refine ev_5 hc_X12_seesBy (fe_X12_seesBy (pc := 85) rfl) (pF_pf eh1) ?_
  refine ev_go hc_X12_seesBy (k := 2) (pc' := 90) (L' := [.ref l0, .int l1, .int l2, .int l3, .int l4]) (S' := [.ref l0, .ref l0]) rfl ?_
  obtain ⟨v2, ev2, H⟩ := Option.bind_eq_some_iff.mp H
  refine ev_4 hc_X12_seesBy (fe_X12_seesBy (pc := 90) rfl) (gL_gf ev2) ?_
  refine ev_go hc_X12_seesBy (k := 2) (pc' := 97) (L' := [.ref l0, .int l1, .int l2, .int l3, .int l4]) (S' := [.long (v2 * (Int64.ofNat 10)), .ref l0]) rfl ?_
  obtain ⟨h3, eh3, H⟩ := Option.bind_eq_some_iff.mp H
  refine ev_5 hc_X12_seesBy (fe_X12_seesBy (pc := 97) rfl) (pF_pf eh3) ?_
  exact Ev.weak (ci_le_c (Or.inr rfl) (ci_le_c (Or.inr rfl) (ci_le_c (Or.inr rfl) (ci_le_c (Or.inr rfl) (ci_le_c (Or.inr rfl) (ci_le_n)))))) (eb_X12_seesBy_100 hd h_13 H)
def b_X12_seesBy_13 (l0 : Nat) (l1 : Int32) (l2 : Int32) (l3 : Int32) : Nat → Int32 → ci_H → Option (ci_H)
  | 0, _, _ => none
  | n + 1, l4, h => if 6 ≤ l4 then (some h) else ((gR h l0 12 4).bind fun v2 => (rI h v2 l2).bind fun v3 => (gR h l0 12 5).bind fun v4 => (rI h v4 l2).bind fun v5 => (F_X12_has (v3 ||| v5) l4 h).bind fun q6 => if q6.1 = 0 then (b_X12_seesBy_100 (fun x0 x1 => b_X12_seesBy_13 l0 l1 l2 l3 n x0 x1) l0 l1 l2 l3 l4 q6.2) else ((gL q6.2 l0 12 35).bind fun v8 => (gR q6.2 l0 12 0).bind fun v9 => (rI q6.2 v9 l1).bind fun v10 => (F_X12_has v10 l4 q6.2).bind fun q11 => (gR q11.2 l0 12 4).bind fun v12 => (rI q11.2 v12 l2).bind fun v13 => (F_X12_has v13 l4 q11.2).bind fun q14 => if q11.1 = q14.1 then (b_X12_seesBy_84 (fun x0 x1 => b_X12_seesBy_13 l0 l1 l2 l3 n x0 x1) l0 l1 l2 l3 l4 l0 v8 ((l3 : Int32).toInt64) q14.2) else (b_X12_seesBy_84 (fun x0 x1 => b_X12_seesBy_13 l0 l1 l2 l3 n x0 x1) l0 l1 l2 l3 l4 l0 v8 ((10 - l3 : Int32).toInt64) q14.2)))
set_option maxHeartbeats 4000000 in
set_option maxRecDepth 20000 in
theorem eb_X12_seesBy_13 {xs : Nat → Int32} {N d : Nat} {nx : ci_N} {l0 : Nat} {l1 : Int32} {l2 : Int32} {l3 : Int32} (hd : 0 ≤ d) : ∀ (n : Nat) (l4 : Int32) (h : ci_H) (r : ci_H), b_X12_seesBy_13 l0 l1 l2 l3 n l4 h = some r → Ev xs N (d + 1) 270 13 [.ref l0, .int l1, .int l2, .int l3, .int l4] [] h nx (oV r nx) := by
  intro n
  induction n with
  | zero => intro l4 h r H; unfold b_X12_seesBy_13 at H; cases H
  | succ n ih =>
    intro l4 h r H
    unfold b_X12_seesBy_13 at H
    refine ev_go hc_X12_seesBy (k := 2) (pc' := 17) (L' := [.ref l0, .int l1, .int l2, .int l3, .int l4]) (S' := [.int 6, .int l4]) rfl ?_
    by_cases c1 : 6 ≤ l4
    · rw [if_pos c1] at H
      refine ev_bt hc_X12_seesBy (fe_X12_seesBy (pc := 17) rfl) rfl c1 ?_
      obtain rfl := Option.some.inj H
      exact ev_8 hc_X12_seesBy (fe_X12_seesBy (pc := 106) rfl) rfl
    · rw [if_neg c1] at H
      refine ev_bf hc_X12_seesBy (fe_X12_seesBy (pc := 17) rfl) rfl c1 ?_
      refine ev_go hc_X12_seesBy (k := 1) (pc' := 21) (L' := [.ref l0, .int l1, .int l2, .int l3, .int l4]) (S' := [.ref l0]) rfl ?_
      obtain ⟨v2, ev2, H⟩ := Option.bind_eq_some_iff.mp H
      refine ev_4 hc_X12_seesBy (fe_X12_seesBy (pc := 21) rfl) (gR_gf ev2) ?_
      refine ev_go hc_X12_seesBy (k := 1) (pc' := 25) (L' := [.ref l0, .int l1, .int l2, .int l3, .int l4]) (S' := [.int l2, .ref v2]) rfl ?_
      obtain ⟨v3, ev3, H⟩ := Option.bind_eq_some_iff.mp H
      refine ev_4 hc_X12_seesBy (fe_X12_seesBy (pc := 25) rfl) (rI_al ev3) ?_
      refine ev_go hc_X12_seesBy (k := 1) (pc' := 27) (L' := [.ref l0, .int l1, .int l2, .int l3, .int l4]) (S' := [.ref l0, .int v3]) rfl ?_
      obtain ⟨v4, ev4, H⟩ := Option.bind_eq_some_iff.mp H
      refine ev_4 hc_X12_seesBy (fe_X12_seesBy (pc := 27) rfl) (gR_gf ev4) ?_
      refine ev_go hc_X12_seesBy (k := 1) (pc' := 31) (L' := [.ref l0, .int l1, .int l2, .int l3, .int l4]) (S' := [.int l2, .ref v4, .int v3]) rfl ?_
      obtain ⟨v5, ev5, H⟩ := Option.bind_eq_some_iff.mp H
      refine ev_4 hc_X12_seesBy (fe_X12_seesBy (pc := 31) rfl) (rI_al ev5) ?_
      refine ev_go hc_X12_seesBy (k := 2) (pc' := 35) (L' := [.ref l0, .int l1, .int l2, .int l3, .int l4]) (S' := [.int l4, .int (v3 ||| v5)]) rfl ?_
      obtain ⟨q6, eq6, H⟩ := Option.bind_eq_some_iff.mp H
      refine ev_call (vs := [.int (v3 ||| v5), .int l4]) (rest := []) (q := q_X12_has) hc_X12_seesBy (Or.inl rfl) (fe_X12_seesBy (pc := 35) rfl) ms_171 rfl rfl (Nat.le_of_ble_eq_true rfl) rfl (E_X12_has eq6 (by omega)) rfl ?_
      show Ev xs N (d + 1) 270 38 [.ref l0, .int l1, .int l2, .int l3, .int l4] [.int q6.1] q6.2 nx _
      by_cases c7 : q6.1 = 0
      · rw [if_pos c7] at H
        refine ev_bt hc_X12_seesBy (fe_X12_seesBy (pc := 38) rfl) rfl c7 ?_
        refine ev_go hc_X12_seesBy (k := 1) (pc' := 100) (L' := [.ref l0, .int l1, .int l2, .int l3, .int l4]) (S' := []) rfl ?_
        exact Ev.weak (ci_le_c (Or.inr rfl) (ci_le_c (Or.inr rfl) (ci_le_c (Or.inr rfl) (ci_le_c (Or.inr rfl) (ci_le_c (Or.inr rfl) (ci_le_n)))))) (eb_X12_seesBy_100 hd ih H)
      · rw [if_neg c7] at H
        refine ev_bf hc_X12_seesBy (fe_X12_seesBy (pc := 38) rfl) rfl c7 ?_
        refine ev_go hc_X12_seesBy (k := 2) (pc' := 46) (L' := [.ref l0, .int l1, .int l2, .int l3, .int l4]) (S' := [.ref l0, .ref l0]) rfl ?_
        obtain ⟨v8, ev8, H⟩ := Option.bind_eq_some_iff.mp H
        refine ev_4 hc_X12_seesBy (fe_X12_seesBy (pc := 46) rfl) (gL_gf ev8) ?_
        refine ev_go hc_X12_seesBy (k := 1) (pc' := 50) (L' := [.ref l0, .int l1, .int l2, .int l3, .int l4]) (S' := [.ref l0, .long v8, .ref l0]) rfl ?_
        obtain ⟨v9, ev9, H⟩ := Option.bind_eq_some_iff.mp H
        refine ev_4 hc_X12_seesBy (fe_X12_seesBy (pc := 50) rfl) (gR_gf ev9) ?_
        refine ev_go hc_X12_seesBy (k := 1) (pc' := 54) (L' := [.ref l0, .int l1, .int l2, .int l3, .int l4]) (S' := [.int l1, .ref v9, .long v8, .ref l0]) rfl ?_
        obtain ⟨v10, ev10, H⟩ := Option.bind_eq_some_iff.mp H
        refine ev_4 hc_X12_seesBy (fe_X12_seesBy (pc := 54) rfl) (rI_al ev10) ?_
        refine ev_go hc_X12_seesBy (k := 1) (pc' := 57) (L' := [.ref l0, .int l1, .int l2, .int l3, .int l4]) (S' := [.int l4, .int v10, .long v8, .ref l0]) rfl ?_
        obtain ⟨q11, eq11, H⟩ := Option.bind_eq_some_iff.mp H
        refine ev_call (vs := [.int v10, .int l4]) (rest := [.long v8, .ref l0]) (q := q_X12_has) hc_X12_seesBy (Or.inl rfl) (fe_X12_seesBy (pc := 57) rfl) ms_171 rfl rfl (Nat.le_of_ble_eq_true rfl) rfl (E_X12_has eq11 (by omega)) rfl ?_
        show Ev xs N (d + 1) 270 60 [.ref l0, .int l1, .int l2, .int l3, .int l4] [.int q11.1, .long v8, .ref l0] q11.2 nx _
        refine ev_go hc_X12_seesBy (k := 1) (pc' := 61) (L' := [.ref l0, .int l1, .int l2, .int l3, .int l4]) (S' := [.ref l0, .int q11.1, .long v8, .ref l0]) rfl ?_
        obtain ⟨v12, ev12, H⟩ := Option.bind_eq_some_iff.mp H
        refine ev_4 hc_X12_seesBy (fe_X12_seesBy (pc := 61) rfl) (gR_gf ev12) ?_
        refine ev_go hc_X12_seesBy (k := 1) (pc' := 65) (L' := [.ref l0, .int l1, .int l2, .int l3, .int l4]) (S' := [.int l2, .ref v12, .int q11.1, .long v8, .ref l0]) rfl ?_
        obtain ⟨v13, ev13, H⟩ := Option.bind_eq_some_iff.mp H
        refine ev_4 hc_X12_seesBy (fe_X12_seesBy (pc := 65) rfl) (rI_al ev13) ?_
        refine ev_go hc_X12_seesBy (k := 1) (pc' := 68) (L' := [.ref l0, .int l1, .int l2, .int l3, .int l4]) (S' := [.int l4, .int v13, .int q11.1, .long v8, .ref l0]) rfl ?_
        obtain ⟨q14, eq14, H⟩ := Option.bind_eq_some_iff.mp H
        refine ev_call (vs := [.int v13, .int l4]) (rest := [.int q11.1, .long v8, .ref l0]) (q := q_X12_has) hc_X12_seesBy (Or.inl rfl) (fe_X12_seesBy (pc := 68) rfl) ms_171 rfl rfl (Nat.le_of_ble_eq_true rfl) rfl (E_X12_has eq14 (by omega)) rfl ?_
        show Ev xs N (d + 1) 270 71 [.ref l0, .int l1, .int l2, .int l3, .int l4] [.int q14.1, .int q11.1, .long v8, .ref l0] q14.2 nx _
        by_cases c15 : q11.1 = q14.1
        · rw [if_pos c15] at H
          refine ev_bt hc_X12_seesBy (fe_X12_seesBy (pc := 71) rfl) rfl c15 ?_
          refine ev_go hc_X12_seesBy (k := 3) (pc' := 84) (L' := [.ref l0, .int l1, .int l2, .int l3, .int l4]) (S' := [.long ((l3 : Int32).toInt64), .long v8, .ref l0]) rfl ?_
          exact Ev.weak (ci_le_c (Or.inr rfl) (ci_le_c (Or.inr rfl) (ci_le_c (Or.inr rfl) (ci_le_c (Or.inr rfl) (ci_le_c (Or.inr rfl) (ci_le_n)))))) (eb_X12_seesBy_84 hd ih H)
        · rw [if_neg c15] at H
          refine ev_bf hc_X12_seesBy (fe_X12_seesBy (pc := 71) rfl) rfl c15 ?_
          refine ev_go hc_X12_seesBy (k := 4) (pc' := 84) (L' := [.ref l0, .int l1, .int l2, .int l3, .int l4]) (S' := [.long ((10 - l3 : Int32).toInt64), .long v8, .ref l0]) rfl ?_
          exact Ev.weak (ci_le_c (Or.inr rfl) (ci_le_c (Or.inr rfl) (ci_le_c (Or.inr rfl) (ci_le_c (Or.inr rfl) (ci_le_c (Or.inr rfl) (ci_le_n)))))) (eb_X12_seesBy_84 hd ih H)
def F_X12_seesBy (a0 : Nat) (a1 : Int32) (a2 : Int32) (a3 : Int32) (h : ci_H) : Option (ci_H) := if kO h a0 = some 12 then ((pF h a0 12 35 (.long (Int64.ofNat 1))).bind fun h1 => (pF h1 a0 12 36 (.long (Int64.ofNat 1))).bind fun h2 => b_X12_seesBy_13 a0 a1 a2 a3 bigN 0 h2) else none
theorem K_X12_seesBy {a0 : Nat} {a1 : Int32} {a2 : Int32} {a3 : Int32} {h : ci_H} {r : ci_H} (H : F_X12_seesBy a0 a1 a2 a3 h = some r) : kO h a0 = some 12 := by
  unfold F_X12_seesBy at H
  by_cases c : kO h a0 = some 12
  · exact c
  · rw [if_neg c] at H; cases H
set_option maxHeartbeats 4000000 in
set_option maxRecDepth 20000 in
theorem E_X12_seesBy {xs : Nat → Int32} {N d : Nat} {nx : ci_N} {a0 : Nat} {a1 : Int32} {a2 : Int32} {a3 : Int32} {h : ci_H} {r : ci_H} (H : F_X12_seesBy a0 a1 a2 a3 h = some r) (hd : 1 ≤ d) : Ev xs N d 270 0 (ci_entry [.ref a0, .int a1, .int a2, .int a3] 5) [] h nx (oV r nx) := by
  obtain ⟨d, rfl⟩ : ∃ d2, d = d2 + 1 := ⟨d - 1, by omega⟩
  have hd : 0 ≤ d := by omega
  unfold F_X12_seesBy at H
  by_cases ck : kO h a0 = some 12
  · rw [if_pos ck] at H
    show Ev xs N (d + 1) 270 0 [.ref a0, .int a1, .int a2, .int a3, ci_junk] [] h nx _
    refine ev_go hc_X12_seesBy (k := 2) (pc' := 2) (L' := [.ref a0, .int a1, .int a2, .int a3, ci_junk]) (S' := [.long (Int64.ofNat 1), .ref a0]) rfl ?_
    obtain ⟨h1, eh1, H⟩ := Option.bind_eq_some_iff.mp H
    refine ev_5 hc_X12_seesBy (fe_X12_seesBy (pc := 2) rfl) (pF_pf eh1) ?_
    refine ev_go hc_X12_seesBy (k := 2) (pc' := 7) (L' := [.ref a0, .int a1, .int a2, .int a3, ci_junk]) (S' := [.long (Int64.ofNat 1), .ref a0]) rfl ?_
    obtain ⟨h2, eh2, H⟩ := Option.bind_eq_some_iff.mp H
    refine ev_5 hc_X12_seesBy (fe_X12_seesBy (pc := 7) rfl) (pF_pf eh2) ?_
    refine ev_go hc_X12_seesBy (k := 2) (pc' := 13) (L' := [.ref a0, .int a1, .int a2, .int a3, .int 0]) (S' := []) rfl ?_
    exact Ev.weak (ci_le_c (Or.inr rfl) (ci_le_c (Or.inr rfl) (ci_le_c (Or.inr rfl) (ci_le_c (Or.inr rfl) (ci_le_c (Or.inr rfl) (ci_le_n)))))) (eb_X12_seesBy_13 hd bigN _ _ _ H)
  · rw [if_neg ck] at H; cases H
theorem hc_X12_seen : ci_code (ci_Ms 271) = k_X12_seen := rfl
theorem fe_X12_seen {pc : Nat} {w : Option ci_I} (h : (k_X12_seen)[pc]? = some w) : (k_X12_seen)[pc]? = some w := h
def F_X12_seen (a0 : Nat) (a1 : Int32) (a2 : Int32) (a3 : Int32) (h : ci_H) : Option (Int32 × ci_H) := if kO h a0 = some 12 then ((pF h a0 12 11 (.int 0)).bind fun h1 => (F_X12_isThing a0 a1 h1).bind fun q2 => if q2.1 = 0 then (some ((-1), q2.2)) else ((F_X12_isKind a0 a2 q2.2).bind fun q4 => if q4.1 = 0 then (some ((-1), q4.2)) else ((F_X12_in a3 0 10 q4.2).bind fun q6 => if q6.1 = 0 then (some ((-1), q6.2)) else ((F_X12_seesBy a0 a1 a2 a3 q6.2).bind fun h8 => (gL h8 a0 12 35).bind fun v9 => (gL h8 a0 12 36).bind fun v10 => (F_X12_common v9 v10 h8).bind fun q11 => (pF q11.2 a0 12 10 (.int 0)).bind fun h12 => (gL h12 a0 12 35).bind fun v13 => (dvL v13 q11.1).bind fun v14 => (F_X12_tell a0 v14 h12).bind fun h15 => (gL h15 a0 12 36).bind fun v16 => (dvL v16 q11.1).bind fun v17 => (F_X12_tell a0 v17 h15).bind fun h18 => some (0, h18))))) else none
theorem K_X12_seen {a0 : Nat} {a1 : Int32} {a2 : Int32} {a3 : Int32} {h : ci_H} {r : Int32 × ci_H} (H : F_X12_seen a0 a1 a2 a3 h = some r) : kO h a0 = some 12 := by
  unfold F_X12_seen at H
  by_cases c : kO h a0 = some 12
  · exact c
  · rw [if_neg c] at H; cases H
set_option maxHeartbeats 4000000 in
set_option maxRecDepth 20000 in
theorem E_X12_seen {xs : Nat → Int32} {N d : Nat} {nx : ci_N} {a0 : Nat} {a1 : Int32} {a2 : Int32} {a3 : Int32} {h : ci_H} {r : Int32 × ci_H} (H : F_X12_seen a0 a1 a2 a3 h = some r) (hd : 102 ≤ d) : Ev xs N d 271 0 (ci_entry [.ref a0, .int a1, .int a2, .int a3] 6) [] h nx (oI r nx) := by
  obtain ⟨d, rfl⟩ : ∃ d2, d = d2 + 1 := ⟨d - 1, by omega⟩
  have hd : 101 ≤ d := by omega
  unfold F_X12_seen at H
  by_cases ck : kO h a0 = some 12
  · rw [if_pos ck] at H
    show Ev xs N (d + 1) 271 0 [.ref a0, .int a1, .int a2, .int a3, ci_junk, ci_junk] [] h nx _
    refine ev_go hc_X12_seen (k := 2) (pc' := 2) (L' := [.ref a0, .int a1, .int a2, .int a3, ci_junk, ci_junk]) (S' := [.int 0, .ref a0]) rfl ?_
    obtain ⟨h1, eh1, H⟩ := Option.bind_eq_some_iff.mp H
    refine ev_5 hc_X12_seen (fe_X12_seen (pc := 2) rfl) (pF_pf eh1) ?_
    refine ev_go hc_X12_seen (k := 2) (pc' := 7) (L' := [.ref a0, .int a1, .int a2, .int a3, ci_junk, ci_junk]) (S' := [.int a1, .ref a0]) rfl ?_
    obtain ⟨q2, eq2, H⟩ := Option.bind_eq_some_iff.mp H
    refine ev_call (vs := [.ref a0, .int a1]) (rest := []) (q := q_X12_isThing) hc_X12_seen (Or.inr rfl) (fe_X12_seen (pc := 7) rfl) ms_174 rfl rfl (Nat.le_of_ble_eq_true rfl) (kO_recv (K_X12_isThing eq2)) (E_X12_isThing eq2 (by omega)) rfl ?_
    show Ev xs N (d + 1) 271 10 [.ref a0, .int a1, .int a2, .int a3, ci_junk, ci_junk] [.int q2.1] q2.2 nx _
    by_cases c3 : q2.1 = 0
    · rw [if_pos c3] at H
      refine ev_bt hc_X12_seen (fe_X12_seen (pc := 10) rfl) rfl c3 ?_
      refine ev_go hc_X12_seen (k := 1) (pc' := 32) (L' := [.ref a0, .int a1, .int a2, .int a3, ci_junk, ci_junk]) (S' := [.int ((-1))]) rfl ?_
      obtain rfl := Option.some.inj H
      exact ev_8 hc_X12_seen (fe_X12_seen (pc := 32) rfl) rfl
    · rw [if_neg c3] at H
      refine ev_bf hc_X12_seen (fe_X12_seen (pc := 10) rfl) rfl c3 ?_
      refine ev_go hc_X12_seen (k := 2) (pc' := 15) (L' := [.ref a0, .int a1, .int a2, .int a3, ci_junk, ci_junk]) (S' := [.int a2, .ref a0]) rfl ?_
      obtain ⟨q4, eq4, H⟩ := Option.bind_eq_some_iff.mp H
      refine ev_call (vs := [.ref a0, .int a2]) (rest := []) (q := q_X12_isKind) hc_X12_seen (Or.inr rfl) (fe_X12_seen (pc := 15) rfl) ms_176 rfl rfl (Nat.le_of_ble_eq_true rfl) (kO_recv (K_X12_isKind eq4)) (E_X12_isKind eq4 (by omega)) rfl ?_
      show Ev xs N (d + 1) 271 18 [.ref a0, .int a1, .int a2, .int a3, ci_junk, ci_junk] [.int q4.1] q4.2 nx _
      by_cases c5 : q4.1 = 0
      · rw [if_pos c5] at H
        refine ev_bt hc_X12_seen (fe_X12_seen (pc := 18) rfl) rfl c5 ?_
        refine ev_go hc_X12_seen (k := 1) (pc' := 32) (L' := [.ref a0, .int a1, .int a2, .int a3, ci_junk, ci_junk]) (S' := [.int ((-1))]) rfl ?_
        obtain rfl := Option.some.inj H
        exact ev_8 hc_X12_seen (fe_X12_seen (pc := 32) rfl) rfl
      · rw [if_neg c5] at H
        refine ev_bf hc_X12_seen (fe_X12_seen (pc := 18) rfl) rfl c5 ?_
        refine ev_go hc_X12_seen (k := 3) (pc' := 25) (L' := [.ref a0, .int a1, .int a2, .int a3, ci_junk, ci_junk]) (S' := [.int 10, .int 0, .int a3]) rfl ?_
        obtain ⟨q6, eq6, H⟩ := Option.bind_eq_some_iff.mp H
        refine ev_call (vs := [.int a3, .int 0, .int 10]) (rest := []) (q := q_X12_in) hc_X12_seen (Or.inl rfl) (fe_X12_seen (pc := 25) rfl) ms_170 rfl rfl (Nat.le_of_ble_eq_true rfl) rfl (E_X12_in eq6 (by omega)) rfl ?_
        show Ev xs N (d + 1) 271 28 [.ref a0, .int a1, .int a2, .int a3, ci_junk, ci_junk] [.int q6.1] q6.2 nx _
        by_cases c7 : q6.1 = 0
        · rw [if_pos c7] at H
          refine ev_bt hc_X12_seen (fe_X12_seen (pc := 28) rfl) rfl c7 ?_
          refine ev_go hc_X12_seen (k := 1) (pc' := 32) (L' := [.ref a0, .int a1, .int a2, .int a3, ci_junk, ci_junk]) (S' := [.int ((-1))]) rfl ?_
          obtain rfl := Option.some.inj H
          exact ev_8 hc_X12_seen (fe_X12_seen (pc := 32) rfl) rfl
        · rw [if_neg c7] at H
          refine ev_bf hc_X12_seen (fe_X12_seen (pc := 28) rfl) rfl c7 ?_
          refine ev_go hc_X12_seen (k := 4) (pc' := 37) (L' := [.ref a0, .int a1, .int a2, .int a3, ci_junk, ci_junk]) (S' := [.int a3, .int a2, .int a1, .ref a0]) rfl ?_
          obtain ⟨h8, eh8, H⟩ := Option.bind_eq_some_iff.mp H
          refine ev_call (vs := [.ref a0, .int a1, .int a2, .int a3]) (rest := []) (q := q_X12_seesBy) hc_X12_seen (Or.inr rfl) (fe_X12_seen (pc := 37) rfl) ms_270 rfl rfl (Nat.le_of_ble_eq_true rfl) (kO_recv (K_X12_seesBy eh8)) (E_X12_seesBy eh8 (by omega)) rfl ?_
          show Ev xs N (d + 1) 271 40 [.ref a0, .int a1, .int a2, .int a3, ci_junk, ci_junk] [] h8 nx _
          refine ev_go hc_X12_seen (k := 1) (pc' := 41) (L' := [.ref a0, .int a1, .int a2, .int a3, ci_junk, ci_junk]) (S' := [.ref a0]) rfl ?_
          obtain ⟨v9, ev9, H⟩ := Option.bind_eq_some_iff.mp H
          refine ev_4 hc_X12_seen (fe_X12_seen (pc := 41) rfl) (gL_gf ev9) ?_
          refine ev_go hc_X12_seen (k := 1) (pc' := 45) (L' := [.ref a0, .int a1, .int a2, .int a3, ci_junk, ci_junk]) (S' := [.ref a0, .long v9]) rfl ?_
          obtain ⟨v10, ev10, H⟩ := Option.bind_eq_some_iff.mp H
          refine ev_4 hc_X12_seen (fe_X12_seen (pc := 45) rfl) (gL_gf ev10) ?_
          obtain ⟨q11, eq11, H⟩ := Option.bind_eq_some_iff.mp H
          refine ev_call (vs := [.long v9, .long v10]) (rest := []) (q := q_X12_common) hc_X12_seen (Or.inl rfl) (fe_X12_seen (pc := 48) rfl) ms_269 rfl rfl (Nat.le_of_ble_eq_true rfl) rfl (E_X12_common eq11 (by omega)) rfl ?_
          show Ev xs N (d + 1) 271 51 [.ref a0, .int a1, .int a2, .int a3, ci_junk, ci_junk] [.long q11.1] q11.2 nx _
          refine ev_go hc_X12_seen (k := 3) (pc' := 55) (L' := [.ref a0, .int a1, .int a2, .int a3, .long q11.1, ci_junk]) (S' := [.int 0, .ref a0]) rfl ?_
          obtain ⟨h12, eh12, H⟩ := Option.bind_eq_some_iff.mp H
          refine ev_5 hc_X12_seen (fe_X12_seen (pc := 55) rfl) (pF_pf eh12) ?_
          refine ev_go hc_X12_seen (k := 2) (pc' := 60) (L' := [.ref a0, .int a1, .int a2, .int a3, .long q11.1, ci_junk]) (S' := [.ref a0, .ref a0]) rfl ?_
          obtain ⟨v13, ev13, H⟩ := Option.bind_eq_some_iff.mp H
          refine ev_4 hc_X12_seen (fe_X12_seen (pc := 60) rfl) (gL_gf ev13) ?_
          refine ev_go hc_X12_seen (k := 1) (pc' := 65) (L' := [.ref a0, .int a1, .int a2, .int a3, .long q11.1, ci_junk]) (S' := [.long q11.1, .long v13, .ref a0]) rfl ?_
          obtain ⟨v14, ev14, H⟩ := Option.bind_eq_some_iff.mp H
          refine ev_1 hc_X12_seen (fe_X12_seen (pc := 65) rfl) (dvL_st ev14) ?_
          obtain ⟨h15, eh15, H⟩ := Option.bind_eq_some_iff.mp H
          refine ev_call (vs := [.ref a0, .long v14]) (rest := []) (q := q_X12_tell) hc_X12_seen (Or.inr rfl) (fe_X12_seen (pc := 66) rfl) ms_173 rfl rfl (Nat.le_of_ble_eq_true rfl) (kO_recv (K_X12_tell eh15)) (E_X12_tell eh15 (by omega)) rfl ?_
          show Ev xs N (d + 1) 271 69 [.ref a0, .int a1, .int a2, .int a3, .long q11.1, ci_junk] [] h15 nx _
          refine ev_go hc_X12_seen (k := 2) (pc' := 71) (L' := [.ref a0, .int a1, .int a2, .int a3, .long q11.1, ci_junk]) (S' := [.ref a0, .ref a0]) rfl ?_
          obtain ⟨v16, ev16, H⟩ := Option.bind_eq_some_iff.mp H
          refine ev_4 hc_X12_seen (fe_X12_seen (pc := 71) rfl) (gL_gf ev16) ?_
          refine ev_go hc_X12_seen (k := 1) (pc' := 76) (L' := [.ref a0, .int a1, .int a2, .int a3, .long q11.1, ci_junk]) (S' := [.long q11.1, .long v16, .ref a0]) rfl ?_
          obtain ⟨v17, ev17, H⟩ := Option.bind_eq_some_iff.mp H
          refine ev_1 hc_X12_seen (fe_X12_seen (pc := 76) rfl) (dvL_st ev17) ?_
          obtain ⟨h18, eh18, H⟩ := Option.bind_eq_some_iff.mp H
          refine ev_call (vs := [.ref a0, .long v17]) (rest := []) (q := q_X12_tell) hc_X12_seen (Or.inr rfl) (fe_X12_seen (pc := 77) rfl) ms_173 rfl rfl (Nat.le_of_ble_eq_true rfl) (kO_recv (K_X12_tell eh18)) (E_X12_tell eh18 (by omega)) rfl ?_
          show Ev xs N (d + 1) 271 80 [.ref a0, .int a1, .int a2, .int a3, .long q11.1, ci_junk] [] h18 nx _
          refine ev_go hc_X12_seen (k := 1) (pc' := 81) (L' := [.ref a0, .int a1, .int a2, .int a3, .long q11.1, ci_junk]) (S' := [.int 0]) rfl ?_
          obtain rfl := Option.some.inj H
          exact ev_8 hc_X12_seen (fe_X12_seen (pc := 81) rfl) rfl
  · rw [if_neg ck] at H; cases H
theorem hc_X12_finds : ci_code (ci_Ms 272) = k_X12_finds := rfl
theorem fe_X12_finds {pc : Nat} {w : Option ci_I} (h : (k_X12_finds)[pc]? = some w) : (k_X12_finds)[pc]? = some w := h
def b_X12_finds_199 (l0 : Nat) : Nat → Int64 → Int32 → ci_H → Option (Int32 × ci_H)
  | 0, _, _, _ => none
  | n + 1, l4, l6, h => if 12 < l6 then (some ((l4 : Int64).toInt32, h)) else ((gR h l0 12 37).bind fun v2 => (rL h v2 l6).bind fun v3 => b_X12_finds_199 l0 n (l4 + v3) (l6 + 1) h)
set_option maxHeartbeats 4000000 in
set_option maxRecDepth 20000 in
theorem eb_X12_finds_199 {xs : Nat → Int32} {N d : Nat} {nx : ci_N} {l0 : Nat} (hd : 1 ≤ d) : ∀ (n : Nat) (l4 : Int64) (l6 : Int32) (h : ci_H) (r : Int32 × ci_H), b_X12_finds_199 l0 n l4 l6 h = some r → Ev xs N (d + 1) 272 199 [.ref l0, ci_junk, ci_junk, ci_junk, .long l4, ci_junk, .int l6, ci_junk] [] h nx (oI r nx) := by
  intro n
  induction n with
  | zero => intro l4 l6 h r H; unfold b_X12_finds_199 at H; cases H
  | succ n ih =>
    intro l4 l6 h r H
    unfold b_X12_finds_199 at H
    refine ev_go hc_X12_finds (k := 2) (pc' := 203) (L' := [.ref l0, ci_junk, ci_junk, ci_junk, .long l4, ci_junk, .int l6, ci_junk]) (S' := [.int 12, .int l6]) rfl ?_
    by_cases c1 : 12 < l6
    · rw [if_pos c1] at H
      refine ev_bt hc_X12_finds (fe_X12_finds (pc := 203) rfl) rfl c1 ?_
      refine ev_go hc_X12_finds (k := 2) (pc' := 227) (L' := [.ref l0, ci_junk, ci_junk, ci_junk, .long l4, ci_junk, .int l6, ci_junk]) (S' := [.int ((l4 : Int64).toInt32)]) rfl ?_
      obtain rfl := Option.some.inj H
      exact ev_8 hc_X12_finds (fe_X12_finds (pc := 227) rfl) rfl
    · rw [if_neg c1] at H
      refine ev_bf hc_X12_finds (fe_X12_finds (pc := 203) rfl) rfl c1 ?_
      refine ev_go hc_X12_finds (k := 2) (pc' := 209) (L' := [.ref l0, ci_junk, ci_junk, ci_junk, .long l4, ci_junk, .int l6, ci_junk]) (S' := [.ref l0, .long l4]) rfl ?_
      obtain ⟨v2, ev2, H⟩ := Option.bind_eq_some_iff.mp H
      refine ev_4 hc_X12_finds (fe_X12_finds (pc := 209) rfl) (gR_gf ev2) ?_
      refine ev_go hc_X12_finds (k := 1) (pc' := 214) (L' := [.ref l0, ci_junk, ci_junk, ci_junk, .long l4, ci_junk, .int l6, ci_junk]) (S' := [.int l6, .ref v2, .long l4]) rfl ?_
      obtain ⟨v3, ev3, H⟩ := Option.bind_eq_some_iff.mp H
      refine ev_4 hc_X12_finds (fe_X12_finds (pc := 214) rfl) (rL_al ev3) ?_
      refine ev_go hc_X12_finds (k := 4) (pc' := 199) (L' := [.ref l0, ci_junk, ci_junk, ci_junk, .long (l4 + v3), ci_junk, .int (l6 + 1), ci_junk]) (S' := []) rfl ?_
      exact Ev.weak (ci_le_c (Or.inr rfl) (ci_le_c (Or.inl rfl) (ci_le_c (Or.inl rfl) (ci_le_c (Or.inl rfl) (ci_le_c (Or.inr rfl) (ci_le_c (Or.inl rfl) (ci_le_c (Or.inr rfl) (ci_le_c (Or.inl rfl) (ci_le_n))))))))) (ih _ _ _ _ H)
def b_X12_finds_182 (r_71 : Int32 → ci_H → Option (Int32 × ci_H)) (l0 : Nat) (l1 : Int32) (l2 : Int32) (l3 : Int32) (l4 : Int32)  (h : ci_H) : Option (Int32 × ci_H) := r_71 (l4 + 1) h
set_option maxHeartbeats 4000000 in
set_option maxRecDepth 20000 in
theorem eb_X12_finds_182 {xs : Nat → Int32} {N d : Nat} {nx : ci_N} {r_71 : Int32 → ci_H → Option (Int32 × ci_H)} {l0 : Nat} {l1 : Int32} {l2 : Int32} {l3 : Int32} {l4 : Int32} (hd : 1 ≤ d) (h_71 : ∀ (l4 : Int32) (h : ci_H) (r : Int32 × ci_H), r_71 l4 h = some r → Ev xs N (d + 1) 272 71 [.ref l0, .int l1, .int l2, .int l3, .int l4, ci_junk, ci_junk, ci_junk] [] h nx (oI r nx)) {h : ci_H} {r : Int32 × ci_H} (H : b_X12_finds_182 r_71 l0 l1 l2 l3 l4 h = some r) : Ev xs N (d + 1) 272 182 [.ref l0, .int l1, .int l2, .int l3, .int l4, ci_junk, ci_junk, ci_junk] [] h nx (oI r nx) := by
  unfold b_X12_finds_182 at H
  refine ev_go hc_X12_finds (k := 2) (pc' := 71) (L' := [.ref l0, .int l1, .int l2, .int l3, .int (l4 + 1), ci_junk, ci_junk, ci_junk]) (S' := []) rfl ?_
  exact Ev.weak (ci_le_c (Or.inr rfl) (ci_le_c (Or.inr rfl) (ci_le_c (Or.inr rfl) (ci_le_c (Or.inr rfl) (ci_le_c (Or.inr rfl) (ci_le_c (Or.inl rfl) (ci_le_c (Or.inl rfl) (ci_le_c (Or.inl rfl) (ci_le_n))))))))) (h_71 _ _ _ H)
def b_X12_finds_170 (r_71 : Int32 → ci_H → Option (Int32 × ci_H)) (r_124 : Int32 → ci_H → Option (Int32 × ci_H)) (l0 : Nat) (l1 : Int32) (l2 : Int32) (l3 : Int32) (l4 : Int32) (l5 : Int64) (l7 : Int32) (s0 : Nat) (s1 : Int32) (s2 : Int64) (s3 : Int64)  (h : ci_H) : Option (Int32 × ci_H) := (dvL (s2 + s3) (Int64.ofNat 1000)).bind fun v1 => (wL h s0 s1 v1).bind fun h2 => r_124 (l7 + (-1)) h2
set_option maxHeartbeats 4000000 in
set_option maxRecDepth 20000 in
theorem eb_X12_finds_170 {xs : Nat → Int32} {N d : Nat} {nx : ci_N} {r_71 : Int32 → ci_H → Option (Int32 × ci_H)} {r_124 : Int32 → ci_H → Option (Int32 × ci_H)} {l0 : Nat} {l1 : Int32} {l2 : Int32} {l3 : Int32} {l4 : Int32} {l5 : Int64} {l7 : Int32} {s0 : Nat} {s1 : Int32} {s2 : Int64} {s3 : Int64} (hd : 1 ≤ d) (h_71 : ∀ (l4 : Int32) (h : ci_H) (r : Int32 × ci_H), r_71 l4 h = some r → Ev xs N (d + 1) 272 71 [.ref l0, .int l1, .int l2, .int l3, .int l4, ci_junk, ci_junk, ci_junk] [] h nx (oI r nx)) (h_124 : ∀ (l7 : Int32) (h : ci_H) (r : Int32 × ci_H), r_124 l7 h = some r → Ev xs N (d + 1) 272 124 [.ref l0, .int l1, .int l2, .int l3, .int l4, .long l5, ci_junk, .int l7] [] h nx (oI r nx)) {h : ci_H} {r : Int32 × ci_H} (H : b_X12_finds_170 r_71 r_124 l0 l1 l2 l3 l4 l5 l7 s0 s1 s2 s3 h = some r) : Ev xs N (d + 1) 272 170 [.ref l0, .int l1, .int l2, .int l3, .int l4, .long l5, ci_junk, .int l7] [.long s3, .long s2, .int s1, .ref s0] h nx (oI r nx) := by
  unfold b_X12_finds_170 at H
  refine ev_go hc_X12_finds (k := 2) (pc' := 174) (L' := [.ref l0, .int l1, .int l2, .int l3, .int l4, .long l5, ci_junk, .int l7]) (S' := [.long (Int64.ofNat 1000), .long (s2 + s3), .int s1, .ref s0]) rfl ?_
  obtain ⟨v1, ev1, H⟩ := Option.bind_eq_some_iff.mp H
  refine ev_1 hc_X12_finds (fe_X12_finds (pc := 174) rfl) (dvL_st ev1) ?_
  obtain ⟨h2, eh2, H⟩ := Option.bind_eq_some_iff.mp H
  refine ev_5 hc_X12_finds (fe_X12_finds (pc := 175) rfl) (wL_as eh2) ?_
  refine ev_go hc_X12_finds (k := 2) (pc' := 124) (L' := [.ref l0, .int l1, .int l2, .int l3, .int l4, .long l5, ci_junk, .int (l7 + (-1))]) (S' := []) rfl ?_
  exact Ev.weak (ci_le_c (Or.inr rfl) (ci_le_c (Or.inr rfl) (ci_le_c (Or.inr rfl) (ci_le_c (Or.inr rfl) (ci_le_c (Or.inr rfl) (ci_le_c (Or.inr rfl) (ci_le_c (Or.inl rfl) (ci_le_c (Or.inr rfl) (ci_le_n))))))))) (h_124 _ _ _ H)
def b_X12_finds_124 (r_71 : Int32 → ci_H → Option (Int32 × ci_H)) (l0 : Nat) (l1 : Int32) (l2 : Int32) (l3 : Int32) (l4 : Int32) (l5 : Int64) : Nat → Int32 → ci_H → Option (Int32 × ci_H)
  | 0, _, _ => none
  | n + 1, l7, h => if l7 < 0 then (b_X12_finds_182 r_71 l0 l1 l2 l3 l4 h) else ((gR h l0 12 37).bind fun v2 => (gR h l0 12 37).bind fun v3 => (rL h v3 l7).bind fun v4 => if l7 = 0 then (b_X12_finds_170 r_71 (fun x0 x1 => b_X12_finds_124 r_71 l0 l1 l2 l3 l4 l5 n x0 x1) l0 l1 l2 l3 l4 l5 l7 v2 l7 (v4 * ((Int64.ofNat 1000) - l5)) (Int64.ofNat 0) h) else ((gR h l0 12 37).bind fun v6 => (rL h v6 (l7 - 1)).bind fun v7 => b_X12_finds_170 r_71 (fun x0 x1 => b_X12_finds_124 r_71 l0 l1 l2 l3 l4 l5 n x0 x1) l0 l1 l2 l3 l4 l5 l7 v2 l7 (v4 * ((Int64.ofNat 1000) - l5)) (v7 * l5) h))
set_option maxHeartbeats 4000000 in
set_option maxRecDepth 20000 in
theorem eb_X12_finds_124 {xs : Nat → Int32} {N d : Nat} {nx : ci_N} {r_71 : Int32 → ci_H → Option (Int32 × ci_H)} {l0 : Nat} {l1 : Int32} {l2 : Int32} {l3 : Int32} {l4 : Int32} {l5 : Int64} (hd : 1 ≤ d) (h_71 : ∀ (l4 : Int32) (h : ci_H) (r : Int32 × ci_H), r_71 l4 h = some r → Ev xs N (d + 1) 272 71 [.ref l0, .int l1, .int l2, .int l3, .int l4, ci_junk, ci_junk, ci_junk] [] h nx (oI r nx)) : ∀ (n : Nat) (l7 : Int32) (h : ci_H) (r : Int32 × ci_H), b_X12_finds_124 r_71 l0 l1 l2 l3 l4 l5 n l7 h = some r → Ev xs N (d + 1) 272 124 [.ref l0, .int l1, .int l2, .int l3, .int l4, .long l5, ci_junk, .int l7] [] h nx (oI r nx) := by
  intro n
  induction n with
  | zero => intro l7 h r H; unfold b_X12_finds_124 at H; cases H
  | succ n ih =>
    intro l7 h r H
    unfold b_X12_finds_124 at H
    refine ev_go hc_X12_finds (k := 1) (pc' := 126) (L' := [.ref l0, .int l1, .int l2, .int l3, .int l4, .long l5, ci_junk, .int l7]) (S' := [.int l7]) rfl ?_
    by_cases c1 : l7 < 0
    · rw [if_pos c1] at H
      refine ev_bt hc_X12_finds (fe_X12_finds (pc := 126) rfl) rfl c1 ?_
      exact Ev.weak (ci_le_c (Or.inr rfl) (ci_le_c (Or.inr rfl) (ci_le_c (Or.inr rfl) (ci_le_c (Or.inr rfl) (ci_le_c (Or.inr rfl) (ci_le_c (Or.inl rfl) (ci_le_c (Or.inl rfl) (ci_le_c (Or.inl rfl) (ci_le_n))))))))) (eb_X12_finds_182 hd h_71 H)
    · rw [if_neg c1] at H
      refine ev_bf hc_X12_finds (fe_X12_finds (pc := 126) rfl) rfl c1 ?_
      refine ev_go hc_X12_finds (k := 1) (pc' := 130) (L' := [.ref l0, .int l1, .int l2, .int l3, .int l4, .long l5, ci_junk, .int l7]) (S' := [.ref l0]) rfl ?_
      obtain ⟨v2, ev2, H⟩ := Option.bind_eq_some_iff.mp H
      refine ev_4 hc_X12_finds (fe_X12_finds (pc := 130) rfl) (gR_gf ev2) ?_
      refine ev_go hc_X12_finds (k := 2) (pc' := 136) (L' := [.ref l0, .int l1, .int l2, .int l3, .int l4, .long l5, ci_junk, .int l7]) (S' := [.ref l0, .int l7, .ref v2]) rfl ?_
      obtain ⟨v3, ev3, H⟩ := Option.bind_eq_some_iff.mp H
      refine ev_4 hc_X12_finds (fe_X12_finds (pc := 136) rfl) (gR_gf ev3) ?_
      refine ev_go hc_X12_finds (k := 1) (pc' := 141) (L' := [.ref l0, .int l1, .int l2, .int l3, .int l4, .long l5, ci_junk, .int l7]) (S' := [.int l7, .ref v3, .int l7, .ref v2]) rfl ?_
      obtain ⟨v4, ev4, H⟩ := Option.bind_eq_some_iff.mp H
      refine ev_4 hc_X12_finds (fe_X12_finds (pc := 141) rfl) (rL_al ev4) ?_
      refine ev_go hc_X12_finds (k := 5) (pc' := 151) (L' := [.ref l0, .int l1, .int l2, .int l3, .int l4, .long l5, ci_junk, .int l7]) (S' := [.int l7, .long (v4 * ((Int64.ofNat 1000) - l5)), .int l7, .ref v2]) rfl ?_
      by_cases c5 : l7 = 0
      · rw [if_pos c5] at H
        refine ev_bt hc_X12_finds (fe_X12_finds (pc := 151) rfl) rfl c5 ?_
        refine ev_go hc_X12_finds (k := 2) (pc' := 170) (L' := [.ref l0, .int l1, .int l2, .int l3, .int l4, .long l5, ci_junk, .int l7]) (S' := [.long (Int64.ofNat 0), .long (v4 * ((Int64.ofNat 1000) - l5)), .int l7, .ref v2]) rfl ?_
        exact Ev.weak (ci_le_c (Or.inr rfl) (ci_le_c (Or.inr rfl) (ci_le_c (Or.inr rfl) (ci_le_c (Or.inr rfl) (ci_le_c (Or.inr rfl) (ci_le_c (Or.inr rfl) (ci_le_c (Or.inl rfl) (ci_le_c (Or.inr rfl) (ci_le_n))))))))) (eb_X12_finds_170 hd h_71 ih H)
      · rw [if_neg c5] at H
        refine ev_bf hc_X12_finds (fe_X12_finds (pc := 151) rfl) rfl c5 ?_
        refine ev_go hc_X12_finds (k := 1) (pc' := 159) (L' := [.ref l0, .int l1, .int l2, .int l3, .int l4, .long l5, ci_junk, .int l7]) (S' := [.ref l0, .long (v4 * ((Int64.ofNat 1000) - l5)), .int l7, .ref v2]) rfl ?_
        obtain ⟨v6, ev6, H⟩ := Option.bind_eq_some_iff.mp H
        refine ev_4 hc_X12_finds (fe_X12_finds (pc := 159) rfl) (gR_gf ev6) ?_
        refine ev_go hc_X12_finds (k := 3) (pc' := 166) (L' := [.ref l0, .int l1, .int l2, .int l3, .int l4, .long l5, ci_junk, .int l7]) (S' := [.int (l7 - 1), .ref v6, .long (v4 * ((Int64.ofNat 1000) - l5)), .int l7, .ref v2]) rfl ?_
        obtain ⟨v7, ev7, H⟩ := Option.bind_eq_some_iff.mp H
        refine ev_4 hc_X12_finds (fe_X12_finds (pc := 166) rfl) (rL_al ev7) ?_
        refine ev_go hc_X12_finds (k := 2) (pc' := 170) (L' := [.ref l0, .int l1, .int l2, .int l3, .int l4, .long l5, ci_junk, .int l7]) (S' := [.long (v7 * l5), .long (v4 * ((Int64.ofNat 1000) - l5)), .int l7, .ref v2]) rfl ?_
        exact Ev.weak (ci_le_c (Or.inr rfl) (ci_le_c (Or.inr rfl) (ci_le_c (Or.inr rfl) (ci_le_c (Or.inr rfl) (ci_le_c (Or.inr rfl) (ci_le_c (Or.inr rfl) (ci_le_c (Or.inl rfl) (ci_le_c (Or.inr rfl) (ci_le_n))))))))) (eb_X12_finds_170 hd h_71 ih H)
def b_X12_finds_71 (l0 : Nat) (l1 : Int32) (l2 : Int32) (l3 : Int32) : Nat → Int32 → ci_H → Option (Int32 × ci_H)
  | 0, _, _ => none
  | n + 1, l4, h => (gI h l0 12 2).bind fun v1 => if v1 ≤ l4 then ((gI h l0 12 6).bind fun v3 => b_X12_finds_199 l0 bigN (Int64.ofNat 0) (v3 + 1) h) else ((gR h l0 12 0).bind fun v4 => (rI h v4 (24 + l4)).bind fun v5 => if v5 = l1 then ((F_X12_seesBy l0 l4 l2 l3 h).bind fun h7 => (gL h7 l0 12 35).bind fun v8 => (gL h7 l0 12 36).bind fun v9 => (dvL ((Int64.ofNat 1000) * v8) v9).bind fun v10 => b_X12_finds_124 (fun x0 x1 => b_X12_finds_71 l0 l1 l2 l3 n x0 x1) l0 l1 l2 l3 l4 v10 bigN 12 h7) else (b_X12_finds_182 (fun x0 x1 => b_X12_finds_71 l0 l1 l2 l3 n x0 x1) l0 l1 l2 l3 l4 h))
set_option maxHeartbeats 4000000 in
set_option maxRecDepth 20000 in
theorem eb_X12_finds_71 {xs : Nat → Int32} {N d : Nat} {nx : ci_N} {l0 : Nat} {l1 : Int32} {l2 : Int32} {l3 : Int32} (hd : 1 ≤ d) : ∀ (n : Nat) (l4 : Int32) (h : ci_H) (r : Int32 × ci_H), b_X12_finds_71 l0 l1 l2 l3 n l4 h = some r → Ev xs N (d + 1) 272 71 [.ref l0, .int l1, .int l2, .int l3, .int l4, ci_junk, ci_junk, ci_junk] [] h nx (oI r nx) := by
  intro n
  induction n with
  | zero => intro l4 h r H; unfold b_X12_finds_71 at H; cases H
  | succ n ih =>
    intro l4 h r H
    unfold b_X12_finds_71 at H
    refine ev_go hc_X12_finds (k := 2) (pc' := 74) (L' := [.ref l0, .int l1, .int l2, .int l3, .int l4, ci_junk, ci_junk, ci_junk]) (S' := [.ref l0, .int l4]) rfl ?_
    obtain ⟨v1, ev1, H⟩ := Option.bind_eq_some_iff.mp H
    refine ev_4 hc_X12_finds (fe_X12_finds (pc := 74) rfl) (gI_gf ev1) ?_
    by_cases c2 : v1 ≤ l4
    · rw [if_pos c2] at H
      refine ev_bt hc_X12_finds (fe_X12_finds (pc := 77) rfl) rfl c2 ?_
      refine ev_go hc_X12_finds (k := 3) (pc' := 192) (L' := [.ref l0, .int l1, .int l2, .int l3, .long (Int64.ofNat 0), ci_junk, ci_junk, ci_junk]) (S' := [.ref l0]) rfl ?_
      obtain ⟨v3, ev3, H⟩ := Option.bind_eq_some_iff.mp H
      refine ev_4 hc_X12_finds (fe_X12_finds (pc := 192) rfl) (gI_gf ev3) ?_
      refine ev_go hc_X12_finds (k := 3) (pc' := 199) (L' := [.ref l0, .int l1, .int l2, .int l3, .long (Int64.ofNat 0), ci_junk, .int (v3 + 1), ci_junk]) (S' := []) rfl ?_
      exact Ev.weak (ci_le_c (Or.inr rfl) (ci_le_c (Or.inl rfl) (ci_le_c (Or.inl rfl) (ci_le_c (Or.inl rfl) (ci_le_c (Or.inr rfl) (ci_le_c (Or.inl rfl) (ci_le_c (Or.inr rfl) (ci_le_c (Or.inl rfl) (ci_le_n))))))))) (eb_X12_finds_199 hd bigN _ _ _ _ H)
    · rw [if_neg c2] at H
      refine ev_bf hc_X12_finds (fe_X12_finds (pc := 77) rfl) rfl c2 ?_
      refine ev_go hc_X12_finds (k := 1) (pc' := 81) (L' := [.ref l0, .int l1, .int l2, .int l3, .int l4, ci_junk, ci_junk, ci_junk]) (S' := [.ref l0]) rfl ?_
      obtain ⟨v4, ev4, H⟩ := Option.bind_eq_some_iff.mp H
      refine ev_4 hc_X12_finds (fe_X12_finds (pc := 81) rfl) (gR_gf ev4) ?_
      refine ev_go hc_X12_finds (k := 3) (pc' := 89) (L' := [.ref l0, .int l1, .int l2, .int l3, .int l4, ci_junk, ci_junk, ci_junk]) (S' := [.int (24 + l4), .ref v4]) rfl ?_
      obtain ⟨v5, ev5, H⟩ := Option.bind_eq_some_iff.mp H
      refine ev_4 hc_X12_finds (fe_X12_finds (pc := 89) rfl) (rI_al ev5) ?_
      refine ev_go hc_X12_finds (k := 1) (pc' := 91) (L' := [.ref l0, .int l1, .int l2, .int l3, .int l4, ci_junk, ci_junk, ci_junk]) (S' := [.int l1, .int v5]) rfl ?_
      by_cases c6 : v5 = l1
      · rw [if_pos c6] at H
        refine ev_bt hc_X12_finds (fe_X12_finds (pc := 91) rfl) rfl c6 ?_
        refine ev_go hc_X12_finds (k := 4) (pc' := 102) (L' := [.ref l0, .int l1, .int l2, .int l3, .int l4, ci_junk, ci_junk, ci_junk]) (S' := [.int l3, .int l2, .int l4, .ref l0]) rfl ?_
        obtain ⟨h7, eh7, H⟩ := Option.bind_eq_some_iff.mp H
        refine ev_call (vs := [.ref l0, .int l4, .int l2, .int l3]) (rest := []) (q := q_X12_seesBy) hc_X12_finds (Or.inr rfl) (fe_X12_finds (pc := 102) rfl) ms_270 rfl rfl (Nat.le_of_ble_eq_true rfl) (kO_recv (K_X12_seesBy eh7)) (E_X12_seesBy eh7 (by omega)) rfl ?_
        show Ev xs N (d + 1) 272 105 [.ref l0, .int l1, .int l2, .int l3, .int l4, ci_junk, ci_junk, ci_junk] [] h7 nx _
        refine ev_go hc_X12_finds (k := 2) (pc' := 109) (L' := [.ref l0, .int l1, .int l2, .int l3, .int l4, ci_junk, ci_junk, ci_junk]) (S' := [.ref l0, .long (Int64.ofNat 1000)]) rfl ?_
        obtain ⟨v8, ev8, H⟩ := Option.bind_eq_some_iff.mp H
        refine ev_4 hc_X12_finds (fe_X12_finds (pc := 109) rfl) (gL_gf ev8) ?_
        refine ev_go hc_X12_finds (k := 2) (pc' := 114) (L' := [.ref l0, .int l1, .int l2, .int l3, .int l4, ci_junk, ci_junk, ci_junk]) (S' := [.ref l0, .long ((Int64.ofNat 1000) * v8)]) rfl ?_
        obtain ⟨v9, ev9, H⟩ := Option.bind_eq_some_iff.mp H
        refine ev_4 hc_X12_finds (fe_X12_finds (pc := 114) rfl) (gL_gf ev9) ?_
        obtain ⟨v10, ev10, H⟩ := Option.bind_eq_some_iff.mp H
        refine ev_1 hc_X12_finds (fe_X12_finds (pc := 117) rfl) (dvL_st ev10) ?_
        refine ev_go hc_X12_finds (k := 3) (pc' := 124) (L' := [.ref l0, .int l1, .int l2, .int l3, .int l4, .long v10, ci_junk, .int 12]) (S' := []) rfl ?_
        exact Ev.weak (ci_le_c (Or.inr rfl) (ci_le_c (Or.inr rfl) (ci_le_c (Or.inr rfl) (ci_le_c (Or.inr rfl) (ci_le_c (Or.inr rfl) (ci_le_c (Or.inr rfl) (ci_le_c (Or.inl rfl) (ci_le_c (Or.inr rfl) (ci_le_n))))))))) (eb_X12_finds_124 hd ih bigN _ _ _ H)
      · rw [if_neg c6] at H
        refine ev_bf hc_X12_finds (fe_X12_finds (pc := 91) rfl) rfl c6 ?_
        refine ev_go hc_X12_finds (k := 1) (pc' := 182) (L' := [.ref l0, .int l1, .int l2, .int l3, .int l4, ci_junk, ci_junk, ci_junk]) (S' := []) rfl ?_
        exact Ev.weak (ci_le_c (Or.inr rfl) (ci_le_c (Or.inr rfl) (ci_le_c (Or.inr rfl) (ci_le_c (Or.inr rfl) (ci_le_c (Or.inr rfl) (ci_le_c (Or.inl rfl) (ci_le_c (Or.inl rfl) (ci_le_c (Or.inl rfl) (ci_le_n))))))))) (eb_X12_finds_182 hd ih H)
def b_X12_finds_61 (r_36 : Int32 → ci_H → Option (Int32 × ci_H)) (l0 : Nat) (l1 : Int32) (l2 : Int32) (l3 : Int32) (l4 : Int32) (s0 : Nat) (s1 : Int32) (s2 : Int64)  (h : ci_H) : Option (Int32 × ci_H) := (wL h s0 s1 s2).bind fun h1 => r_36 (l4 + 1) h1
set_option maxHeartbeats 4000000 in
set_option maxRecDepth 20000 in
theorem eb_X12_finds_61 {xs : Nat → Int32} {N d : Nat} {nx : ci_N} {r_36 : Int32 → ci_H → Option (Int32 × ci_H)} {l0 : Nat} {l1 : Int32} {l2 : Int32} {l3 : Int32} {l4 : Int32} {s0 : Nat} {s1 : Int32} {s2 : Int64} (hd : 1 ≤ d) (h_36 : ∀ (l4 : Int32) (h : ci_H) (r : Int32 × ci_H), r_36 l4 h = some r → Ev xs N (d + 1) 272 36 [.ref l0, .int l1, .int l2, .int l3, .int l4, ci_junk, ci_junk, ci_junk] [] h nx (oI r nx)) {h : ci_H} {r : Int32 × ci_H} (H : b_X12_finds_61 r_36 l0 l1 l2 l3 l4 s0 s1 s2 h = some r) : Ev xs N (d + 1) 272 61 [.ref l0, .int l1, .int l2, .int l3, .int l4, ci_junk, ci_junk, ci_junk] [.long s2, .int s1, .ref s0] h nx (oI r nx) := by
  unfold b_X12_finds_61 at H
  obtain ⟨h1, eh1, H⟩ := Option.bind_eq_some_iff.mp H
  refine ev_5 hc_X12_finds (fe_X12_finds (pc := 61) rfl) (wL_as eh1) ?_
  refine ev_go hc_X12_finds (k := 2) (pc' := 36) (L' := [.ref l0, .int l1, .int l2, .int l3, .int (l4 + 1), ci_junk, ci_junk, ci_junk]) (S' := []) rfl ?_
  exact Ev.weak (ci_le_c (Or.inr rfl) (ci_le_c (Or.inr rfl) (ci_le_c (Or.inr rfl) (ci_le_c (Or.inr rfl) (ci_le_c (Or.inr rfl) (ci_le_c (Or.inl rfl) (ci_le_c (Or.inl rfl) (ci_le_c (Or.inl rfl) (ci_le_n))))))))) (h_36 _ _ _ H)
def b_X12_finds_36 (l0 : Nat) (l1 : Int32) (l2 : Int32) (l3 : Int32) : Nat → Int32 → ci_H → Option (Int32 × ci_H)
  | 0, _, _ => none
  | n + 1, l4, h => if 12 < l4 then (b_X12_finds_71 l0 l1 l2 l3 bigN 0 h) else ((gR h l0 12 37).bind fun v2 => if l4 = 0 then (b_X12_finds_61 (fun x0 x1 => b_X12_finds_36 l0 l1 l2 l3 n x0 x1) l0 l1 l2 l3 l4 v2 l4 (Int64.ofNat 1000000) h) else (b_X12_finds_61 (fun x0 x1 => b_X12_finds_36 l0 l1 l2 l3 n x0 x1) l0 l1 l2 l3 l4 v2 l4 (Int64.ofNat 0) h))
set_option maxHeartbeats 4000000 in
set_option maxRecDepth 20000 in
theorem eb_X12_finds_36 {xs : Nat → Int32} {N d : Nat} {nx : ci_N} {l0 : Nat} {l1 : Int32} {l2 : Int32} {l3 : Int32} (hd : 1 ≤ d) : ∀ (n : Nat) (l4 : Int32) (h : ci_H) (r : Int32 × ci_H), b_X12_finds_36 l0 l1 l2 l3 n l4 h = some r → Ev xs N (d + 1) 272 36 [.ref l0, .int l1, .int l2, .int l3, .int l4, ci_junk, ci_junk, ci_junk] [] h nx (oI r nx) := by
  intro n
  induction n with
  | zero => intro l4 h r H; unfold b_X12_finds_36 at H; cases H
  | succ n ih =>
    intro l4 h r H
    unfold b_X12_finds_36 at H
    refine ev_go hc_X12_finds (k := 2) (pc' := 40) (L' := [.ref l0, .int l1, .int l2, .int l3, .int l4, ci_junk, ci_junk, ci_junk]) (S' := [.int 12, .int l4]) rfl ?_
    by_cases c1 : 12 < l4
    · rw [if_pos c1] at H
      refine ev_bt hc_X12_finds (fe_X12_finds (pc := 40) rfl) rfl c1 ?_
      refine ev_go hc_X12_finds (k := 2) (pc' := 71) (L' := [.ref l0, .int l1, .int l2, .int l3, .int 0, ci_junk, ci_junk, ci_junk]) (S' := []) rfl ?_
      exact Ev.weak (ci_le_c (Or.inr rfl) (ci_le_c (Or.inr rfl) (ci_le_c (Or.inr rfl) (ci_le_c (Or.inr rfl) (ci_le_c (Or.inr rfl) (ci_le_c (Or.inl rfl) (ci_le_c (Or.inl rfl) (ci_le_c (Or.inl rfl) (ci_le_n))))))))) (eb_X12_finds_71 hd bigN _ _ _ H)
    · rw [if_neg c1] at H
      refine ev_bf hc_X12_finds (fe_X12_finds (pc := 40) rfl) rfl c1 ?_
      refine ev_go hc_X12_finds (k := 1) (pc' := 44) (L' := [.ref l0, .int l1, .int l2, .int l3, .int l4, ci_junk, ci_junk, ci_junk]) (S' := [.ref l0]) rfl ?_
      obtain ⟨v2, ev2, H⟩ := Option.bind_eq_some_iff.mp H
      refine ev_4 hc_X12_finds (fe_X12_finds (pc := 44) rfl) (gR_gf ev2) ?_
      refine ev_go hc_X12_finds (k := 2) (pc' := 51) (L' := [.ref l0, .int l1, .int l2, .int l3, .int l4, ci_junk, ci_junk, ci_junk]) (S' := [.int l4, .int l4, .ref v2]) rfl ?_
      by_cases c3 : l4 = 0
      · rw [if_pos c3] at H
        refine ev_bt hc_X12_finds (fe_X12_finds (pc := 51) rfl) rfl c3 ?_
        refine ev_go hc_X12_finds (k := 2) (pc' := 61) (L' := [.ref l0, .int l1, .int l2, .int l3, .int l4, ci_junk, ci_junk, ci_junk]) (S' := [.long (Int64.ofNat 1000000), .int l4, .ref v2]) rfl ?_
        exact Ev.weak (ci_le_c (Or.inr rfl) (ci_le_c (Or.inr rfl) (ci_le_c (Or.inr rfl) (ci_le_c (Or.inr rfl) (ci_le_c (Or.inr rfl) (ci_le_c (Or.inl rfl) (ci_le_c (Or.inl rfl) (ci_le_c (Or.inl rfl) (ci_le_n))))))))) (eb_X12_finds_61 hd ih H)
      · rw [if_neg c3] at H
        refine ev_bf hc_X12_finds (fe_X12_finds (pc := 51) rfl) rfl c3 ?_
        refine ev_go hc_X12_finds (k := 1) (pc' := 61) (L' := [.ref l0, .int l1, .int l2, .int l3, .int l4, ci_junk, ci_junk, ci_junk]) (S' := [.long (Int64.ofNat 0), .int l4, .ref v2]) rfl ?_
        exact Ev.weak (ci_le_c (Or.inr rfl) (ci_le_c (Or.inr rfl) (ci_le_c (Or.inr rfl) (ci_le_c (Or.inr rfl) (ci_le_c (Or.inr rfl) (ci_le_c (Or.inl rfl) (ci_le_c (Or.inl rfl) (ci_le_c (Or.inl rfl) (ci_le_n))))))))) (eb_X12_finds_61 hd ih H)
def F_X12_finds (a0 : Nat) (a1 : Int32) (a2 : Int32) (a3 : Int32) (h : ci_H) : Option (Int32 × ci_H) := if kO h a0 = some 12 then ((pF h a0 12 11 (.int 0)).bind fun h1 => (F_X12_isHouse a0 a1 h1).bind fun q2 => if q2.1 = 0 then (some ((-1), q2.2)) else ((F_X12_isKind a0 a2 q2.2).bind fun q4 => if q4.1 = 0 then (some ((-1), q4.2)) else ((F_X12_in a3 0 10 q4.2).bind fun q6 => if q6.1 = 0 then (some ((-1), q6.2)) else (b_X12_finds_36 a0 a1 a2 a3 bigN 0 q6.2)))) else none
theorem K_X12_finds {a0 : Nat} {a1 : Int32} {a2 : Int32} {a3 : Int32} {h : ci_H} {r : Int32 × ci_H} (H : F_X12_finds a0 a1 a2 a3 h = some r) : kO h a0 = some 12 := by
  unfold F_X12_finds at H
  by_cases c : kO h a0 = some 12
  · exact c
  · rw [if_neg c] at H; cases H
set_option maxHeartbeats 4000000 in
set_option maxRecDepth 20000 in
theorem E_X12_finds {xs : Nat → Int32} {N d : Nat} {nx : ci_N} {a0 : Nat} {a1 : Int32} {a2 : Int32} {a3 : Int32} {h : ci_H} {r : Int32 × ci_H} (H : F_X12_finds a0 a1 a2 a3 h = some r) (hd : 2 ≤ d) : Ev xs N d 272 0 (ci_entry [.ref a0, .int a1, .int a2, .int a3] 8) [] h nx (oI r nx) := by
  obtain ⟨d, rfl⟩ : ∃ d2, d = d2 + 1 := ⟨d - 1, by omega⟩
  have hd : 1 ≤ d := by omega
  unfold F_X12_finds at H
  by_cases ck : kO h a0 = some 12
  · rw [if_pos ck] at H
    show Ev xs N (d + 1) 272 0 [.ref a0, .int a1, .int a2, .int a3, ci_junk, ci_junk, ci_junk, ci_junk] [] h nx _
    refine ev_go hc_X12_finds (k := 2) (pc' := 2) (L' := [.ref a0, .int a1, .int a2, .int a3, ci_junk, ci_junk, ci_junk, ci_junk]) (S' := [.int 0, .ref a0]) rfl ?_
    obtain ⟨h1, eh1, H⟩ := Option.bind_eq_some_iff.mp H
    refine ev_5 hc_X12_finds (fe_X12_finds (pc := 2) rfl) (pF_pf eh1) ?_
    refine ev_go hc_X12_finds (k := 2) (pc' := 7) (L' := [.ref a0, .int a1, .int a2, .int a3, ci_junk, ci_junk, ci_junk, ci_junk]) (S' := [.int a1, .ref a0]) rfl ?_
    obtain ⟨q2, eq2, H⟩ := Option.bind_eq_some_iff.mp H
    refine ev_call (vs := [.ref a0, .int a1]) (rest := []) (q := q_X12_isHouse) hc_X12_finds (Or.inr rfl) (fe_X12_finds (pc := 7) rfl) ms_175 rfl rfl (Nat.le_of_ble_eq_true rfl) (kO_recv (K_X12_isHouse eq2)) (E_X12_isHouse eq2 (by omega)) rfl ?_
    show Ev xs N (d + 1) 272 10 [.ref a0, .int a1, .int a2, .int a3, ci_junk, ci_junk, ci_junk, ci_junk] [.int q2.1] q2.2 nx _
    by_cases c3 : q2.1 = 0
    · rw [if_pos c3] at H
      refine ev_bt hc_X12_finds (fe_X12_finds (pc := 10) rfl) rfl c3 ?_
      refine ev_go hc_X12_finds (k := 1) (pc' := 32) (L' := [.ref a0, .int a1, .int a2, .int a3, ci_junk, ci_junk, ci_junk, ci_junk]) (S' := [.int ((-1))]) rfl ?_
      obtain rfl := Option.some.inj H
      exact ev_8 hc_X12_finds (fe_X12_finds (pc := 32) rfl) rfl
    · rw [if_neg c3] at H
      refine ev_bf hc_X12_finds (fe_X12_finds (pc := 10) rfl) rfl c3 ?_
      refine ev_go hc_X12_finds (k := 2) (pc' := 15) (L' := [.ref a0, .int a1, .int a2, .int a3, ci_junk, ci_junk, ci_junk, ci_junk]) (S' := [.int a2, .ref a0]) rfl ?_
      obtain ⟨q4, eq4, H⟩ := Option.bind_eq_some_iff.mp H
      refine ev_call (vs := [.ref a0, .int a2]) (rest := []) (q := q_X12_isKind) hc_X12_finds (Or.inr rfl) (fe_X12_finds (pc := 15) rfl) ms_176 rfl rfl (Nat.le_of_ble_eq_true rfl) (kO_recv (K_X12_isKind eq4)) (E_X12_isKind eq4 (by omega)) rfl ?_
      show Ev xs N (d + 1) 272 18 [.ref a0, .int a1, .int a2, .int a3, ci_junk, ci_junk, ci_junk, ci_junk] [.int q4.1] q4.2 nx _
      by_cases c5 : q4.1 = 0
      · rw [if_pos c5] at H
        refine ev_bt hc_X12_finds (fe_X12_finds (pc := 18) rfl) rfl c5 ?_
        refine ev_go hc_X12_finds (k := 1) (pc' := 32) (L' := [.ref a0, .int a1, .int a2, .int a3, ci_junk, ci_junk, ci_junk, ci_junk]) (S' := [.int ((-1))]) rfl ?_
        obtain rfl := Option.some.inj H
        exact ev_8 hc_X12_finds (fe_X12_finds (pc := 32) rfl) rfl
      · rw [if_neg c5] at H
        refine ev_bf hc_X12_finds (fe_X12_finds (pc := 18) rfl) rfl c5 ?_
        refine ev_go hc_X12_finds (k := 3) (pc' := 25) (L' := [.ref a0, .int a1, .int a2, .int a3, ci_junk, ci_junk, ci_junk, ci_junk]) (S' := [.int 10, .int 0, .int a3]) rfl ?_
        obtain ⟨q6, eq6, H⟩ := Option.bind_eq_some_iff.mp H
        refine ev_call (vs := [.int a3, .int 0, .int 10]) (rest := []) (q := q_X12_in) hc_X12_finds (Or.inl rfl) (fe_X12_finds (pc := 25) rfl) ms_170 rfl rfl (Nat.le_of_ble_eq_true rfl) rfl (E_X12_in eq6 (by omega)) rfl ?_
        show Ev xs N (d + 1) 272 28 [.ref a0, .int a1, .int a2, .int a3, ci_junk, ci_junk, ci_junk, ci_junk] [.int q6.1] q6.2 nx _
        by_cases c7 : q6.1 = 0
        · rw [if_pos c7] at H
          refine ev_bt hc_X12_finds (fe_X12_finds (pc := 28) rfl) rfl c7 ?_
          refine ev_go hc_X12_finds (k := 1) (pc' := 32) (L' := [.ref a0, .int a1, .int a2, .int a3, ci_junk, ci_junk, ci_junk, ci_junk]) (S' := [.int ((-1))]) rfl ?_
          obtain rfl := Option.some.inj H
          exact ev_8 hc_X12_finds (fe_X12_finds (pc := 32) rfl) rfl
        · rw [if_neg c7] at H
          refine ev_bf hc_X12_finds (fe_X12_finds (pc := 28) rfl) rfl c7 ?_
          refine ev_go hc_X12_finds (k := 2) (pc' := 36) (L' := [.ref a0, .int a1, .int a2, .int a3, .int 0, ci_junk, ci_junk, ci_junk]) (S' := []) rfl ?_
          exact Ev.weak (ci_le_c (Or.inr rfl) (ci_le_c (Or.inr rfl) (ci_le_c (Or.inr rfl) (ci_le_c (Or.inr rfl) (ci_le_c (Or.inr rfl) (ci_le_c (Or.inl rfl) (ci_le_c (Or.inl rfl) (ci_le_c (Or.inl rfl) (ci_le_n))))))))) (eb_X12_finds_36 hd bigN _ _ _ H)
  · rw [if_neg ck] at H; cases H
theorem hc_X12_gets : ci_code (ci_Ms 273) = k_X12_gets := rfl
theorem fe_X12_gets {pc : Nat} {w : Option ci_I} (h : (k_X12_gets)[pc]? = some w) : (k_X12_gets)[pc]? = some w := h
def b_X12_gets_21 (l0 : Int32) (l3 : Int32) (s0 : Int32)  (h : ci_H) : Option (Int32 × ci_H) := some (s0 - (l3 * l0), h)
set_option maxHeartbeats 4000000 in
set_option maxRecDepth 20000 in
theorem eb_X12_gets_21 {xs : Nat → Int32} {N d : Nat} {nx : ci_N} {l0 : Int32} {l3 : Int32} {s0 : Int32} {h : ci_H} {r : Int32 × ci_H} (H : b_X12_gets_21 l0 l3 s0 h = some r) : Ev xs N d 273 21 [.int l0, ci_junk, ci_junk, .int l3] [.int s0] h nx (oI r nx) := by
  unfold b_X12_gets_21 at H
  refine ev_go hc_X12_gets (k := 4) (pc' := 25) (L' := [.int l0, ci_junk, ci_junk, .int l3]) (S' := [.int (s0 - (l3 * l0))]) rfl ?_
  obtain rfl := Option.some.inj H
  exact ev_8 hc_X12_gets (fe_X12_gets (pc := 25) rfl) rfl
def F_X12_gets (a0 : Int32) (a1 : Int32) (a2 : Int32) (a3 : Int32) (h : ci_H) : Option (Int32 × ci_H) := if a0 ≤ a1 then (if a0 = a1 then ((dvI a2 2).bind fun v3 => b_X12_gets_21 a0 a3 v3 h) else (b_X12_gets_21 a0 a3 0 h)) else (b_X12_gets_21 a0 a3 a2 h)
set_option maxHeartbeats 4000000 in
set_option maxRecDepth 20000 in
theorem E_X12_gets {xs : Nat → Int32} {N d : Nat} {nx : ci_N} {a0 : Int32} {a1 : Int32} {a2 : Int32} {a3 : Int32} {h : ci_H} {r : Int32 × ci_H} (H : F_X12_gets a0 a1 a2 a3 h = some r) (hd : 0 ≤ d) : Ev xs N d 273 0 (ci_entry [.int a0, .int a1, .int a2, .int a3] 4) [] h nx (oI r nx) := by
  unfold F_X12_gets at H
  show Ev xs N d 273 0 [.int a0, .int a1, .int a2, .int a3] [] h nx _
  refine ev_go hc_X12_gets (k := 2) (pc' := 2) (L' := [.int a0, .int a1, .int a2, .int a3]) (S' := [.int a1, .int a0]) rfl ?_
  by_cases c1 : a0 ≤ a1
  · rw [if_pos c1] at H
    refine ev_bt hc_X12_gets (fe_X12_gets (pc := 2) rfl) rfl c1 ?_
    refine ev_go hc_X12_gets (k := 2) (pc' := 11) (L' := [.int a0, .int a1, .int a2, .int a3]) (S' := [.int a1, .int a0]) rfl ?_
    by_cases c2 : a0 = a1
    · rw [if_pos c2] at H
      refine ev_bt hc_X12_gets (fe_X12_gets (pc := 11) rfl) rfl c2 ?_
      refine ev_go hc_X12_gets (k := 2) (pc' := 16) (L' := [.int a0, .int a1, .int a2, .int a3]) (S' := [.int 2, .int a2]) rfl ?_
      obtain ⟨v3, ev3, H⟩ := Option.bind_eq_some_iff.mp H
      refine ev_1 hc_X12_gets (fe_X12_gets (pc := 16) rfl) (dvI_st ev3) ?_
      refine ev_go hc_X12_gets (k := 1) (pc' := 21) (L' := [.int a0, .int a1, .int a2, .int a3]) (S' := [.int v3]) rfl ?_
      exact Ev.weak (ci_le_c (Or.inr rfl) (ci_le_c (Or.inl rfl) (ci_le_c (Or.inl rfl) (ci_le_c (Or.inr rfl) (ci_le_n))))) (eb_X12_gets_21 H)
    · rw [if_neg c2] at H
      refine ev_bf hc_X12_gets (fe_X12_gets (pc := 11) rfl) rfl c2 ?_
      refine ev_go hc_X12_gets (k := 1) (pc' := 21) (L' := [.int a0, .int a1, .int a2, .int a3]) (S' := [.int 0]) rfl ?_
      exact Ev.weak (ci_le_c (Or.inr rfl) (ci_le_c (Or.inl rfl) (ci_le_c (Or.inl rfl) (ci_le_c (Or.inr rfl) (ci_le_n))))) (eb_X12_gets_21 H)
  · rw [if_neg c1] at H
    refine ev_bf hc_X12_gets (fe_X12_gets (pc := 2) rfl) rfl c1 ?_
    refine ev_go hc_X12_gets (k := 2) (pc' := 21) (L' := [.int a0, .int a1, .int a2, .int a3]) (S' := [.int a2]) rfl ?_
    exact Ev.weak (ci_le_c (Or.inr rfl) (ci_le_c (Or.inl rfl) (ci_le_c (Or.inl rfl) (ci_le_c (Or.inr rfl) (ci_le_n))))) (eb_X12_gets_21 H)
theorem hc_X12_isBest : ci_code (ci_Ms 274) = k_X12_isBest := rfl
theorem fe_X12_isBest {pc : Nat} {w : Option ci_I} (h : (k_X12_isBest)[pc]? = some w) : (k_X12_isBest)[pc]? = some w := h
def b_X12_isBest_3 (l0 : Int32) (l1 : Int32) (l2 : Int32) (l3 : Int32) : Nat → Int32 → ci_H → Option (Int32 × ci_H)
  | 0, _, _ => none
  | n + 1, l4, h => if 9 < l4 then (some (1, h)) else ((F_X12_gets l4 l1 l2 l3 h).bind fun q2 => (F_X12_gets l0 l1 l2 l3 q2.2).bind fun q3 => if q2.1 ≤ q3.1 then (b_X12_isBest_3 l0 l1 l2 l3 n (l4 + 1) q3.2) else (some (0, q3.2)))
set_option maxHeartbeats 4000000 in
set_option maxRecDepth 20000 in
theorem eb_X12_isBest_3 {xs : Nat → Int32} {N d : Nat} {nx : ci_N} {l0 : Int32} {l1 : Int32} {l2 : Int32} {l3 : Int32} (hd : 0 ≤ d) : ∀ (n : Nat) (l4 : Int32) (h : ci_H) (r : Int32 × ci_H), b_X12_isBest_3 l0 l1 l2 l3 n l4 h = some r → Ev xs N (d + 1) 274 3 [.int l0, .int l1, .int l2, .int l3, .int l4] [] h nx (oI r nx) := by
  intro n
  induction n with
  | zero => intro l4 h r H; unfold b_X12_isBest_3 at H; cases H
  | succ n ih =>
    intro l4 h r H
    unfold b_X12_isBest_3 at H
    refine ev_go hc_X12_isBest (k := 2) (pc' := 7) (L' := [.int l0, .int l1, .int l2, .int l3, .int l4]) (S' := [.int 9, .int l4]) rfl ?_
    by_cases c1 : 9 < l4
    · rw [if_pos c1] at H
      refine ev_bt hc_X12_isBest (fe_X12_isBest (pc := 7) rfl) rfl c1 ?_
      refine ev_go hc_X12_isBest (k := 1) (pc' := 37) (L' := [.int l0, .int l1, .int l2, .int l3, .int l4]) (S' := [.int 1]) rfl ?_
      obtain rfl := Option.some.inj H
      exact ev_8z hc_X12_isBest (fe_X12_isBest (pc := 37) rfl) rfl (Or.inr rfl)
    · rw [if_neg c1] at H
      refine ev_bf hc_X12_isBest (fe_X12_isBest (pc := 7) rfl) rfl c1 ?_
      refine ev_go hc_X12_isBest (k := 4) (pc' := 15) (L' := [.int l0, .int l1, .int l2, .int l3, .int l4]) (S' := [.int l3, .int l2, .int l1, .int l4]) rfl ?_
      obtain ⟨q2, eq2, H⟩ := Option.bind_eq_some_iff.mp H
      refine ev_call (vs := [.int l4, .int l1, .int l2, .int l3]) (rest := []) (q := q_X12_gets) hc_X12_isBest (Or.inl rfl) (fe_X12_isBest (pc := 15) rfl) ms_273 rfl rfl (Nat.le_of_ble_eq_true rfl) rfl (E_X12_gets eq2 (by omega)) rfl ?_
      show Ev xs N (d + 1) 274 18 [.int l0, .int l1, .int l2, .int l3, .int l4] [.int q2.1] q2.2 nx _
      refine ev_go hc_X12_isBest (k := 4) (pc' := 22) (L' := [.int l0, .int l1, .int l2, .int l3, .int l4]) (S' := [.int l3, .int l2, .int l1, .int l0, .int q2.1]) rfl ?_
      obtain ⟨q3, eq3, H⟩ := Option.bind_eq_some_iff.mp H
      refine ev_call (vs := [.int l0, .int l1, .int l2, .int l3]) (rest := [.int q2.1]) (q := q_X12_gets) hc_X12_isBest (Or.inl rfl) (fe_X12_isBest (pc := 22) rfl) ms_273 rfl rfl (Nat.le_of_ble_eq_true rfl) rfl (E_X12_gets eq3 (by omega)) rfl ?_
      show Ev xs N (d + 1) 274 25 [.int l0, .int l1, .int l2, .int l3, .int l4] [.int q3.1, .int q2.1] q3.2 nx _
      by_cases c4 : q2.1 ≤ q3.1
      · rw [if_pos c4] at H
        refine ev_bt hc_X12_isBest (fe_X12_isBest (pc := 25) rfl) rfl c4 ?_
        refine ev_go hc_X12_isBest (k := 2) (pc' := 3) (L' := [.int l0, .int l1, .int l2, .int l3, .int (l4 + 1)]) (S' := []) rfl ?_
        exact Ev.weak (ci_le_c (Or.inr rfl) (ci_le_c (Or.inr rfl) (ci_le_c (Or.inr rfl) (ci_le_c (Or.inr rfl) (ci_le_c (Or.inr rfl) (ci_le_n)))))) (ih _ _ _ H)
      · rw [if_neg c4] at H
        refine ev_bf hc_X12_isBest (fe_X12_isBest (pc := 25) rfl) rfl c4 ?_
        refine ev_go hc_X12_isBest (k := 1) (pc' := 29) (L' := [.int l0, .int l1, .int l2, .int l3, .int l4]) (S' := [.int 0]) rfl ?_
        obtain rfl := Option.some.inj H
        exact ev_8z hc_X12_isBest (fe_X12_isBest (pc := 29) rfl) rfl (Or.inl rfl)
def F_X12_isBest (a0 : Int32) (a1 : Int32) (a2 : Int32) (a3 : Int32) (h : ci_H) : Option (Int32 × ci_H) := b_X12_isBest_3 a0 a1 a2 a3 bigN 0 h
set_option maxHeartbeats 4000000 in
set_option maxRecDepth 20000 in
theorem E_X12_isBest {xs : Nat → Int32} {N d : Nat} {nx : ci_N} {a0 : Int32} {a1 : Int32} {a2 : Int32} {a3 : Int32} {h : ci_H} {r : Int32 × ci_H} (H : F_X12_isBest a0 a1 a2 a3 h = some r) (hd : 1 ≤ d) : Ev xs N d 274 0 (ci_entry [.int a0, .int a1, .int a2, .int a3] 5) [] h nx (oI r nx) := by
  obtain ⟨d, rfl⟩ : ∃ d2, d = d2 + 1 := ⟨d - 1, by omega⟩
  have hd : 0 ≤ d := by omega
  unfold F_X12_isBest at H
  show Ev xs N (d + 1) 274 0 [.int a0, .int a1, .int a2, .int a3, ci_junk] [] h nx _
  refine ev_go hc_X12_isBest (k := 2) (pc' := 3) (L' := [.int a0, .int a1, .int a2, .int a3, .int 0]) (S' := []) rfl ?_
  exact Ev.weak (ci_le_c (Or.inr rfl) (ci_le_c (Or.inr rfl) (ci_le_c (Or.inr rfl) (ci_le_c (Or.inr rfl) (ci_le_c (Or.inr rfl) (ci_le_n)))))) (eb_X12_isBest_3 hd bigN _ _ _ H)
theorem hc_X12_rests : ci_code (ci_Ms 275) = k_X12_rests := rfl
theorem fe_X12_rests {pc : Nat} {w : Option ci_I} (h : (k_X12_rests)[pc]? = some w) : (k_X12_rests)[pc]? = some w := h
def b_X12_rests_102 (r_37 : Int32 → Int32 → ci_H → Option (Int32 × ci_H)) (r_47 : Int32 → Int32 → ci_H → Option (Int32 × ci_H)) (l0 : Nat) (l1 : Int32) (l2 : Int32) (l3 : Int32) (l4 : Int32) (l5 : Int32)  (h : ci_H) : Option (Int32 × ci_H) := r_47 l3 (l5 + 1) h
set_option maxHeartbeats 4000000 in
set_option maxRecDepth 20000 in
theorem eb_X12_rests_102 {xs : Nat → Int32} {N d : Nat} {nx : ci_N} {r_37 : Int32 → Int32 → ci_H → Option (Int32 × ci_H)} {r_47 : Int32 → Int32 → ci_H → Option (Int32 × ci_H)} {l0 : Nat} {l1 : Int32} {l2 : Int32} {l3 : Int32} {l4 : Int32} {l5 : Int32} (hd : 1 ≤ d) (h_37 : ∀ (l3 : Int32) (l4 : Int32) (h : ci_H) (r : Int32 × ci_H), r_37 l3 l4 h = some r → Ev xs N (d + 1) 275 37 [.ref l0, .int l1, .int l2, .int l3, .int l4, ci_junk] [] h nx (oI r nx)) (h_47 : ∀ (l3 : Int32) (l5 : Int32) (h : ci_H) (r : Int32 × ci_H), r_47 l3 l5 h = some r → Ev xs N (d + 1) 275 47 [.ref l0, .int l1, .int l2, .int l3, .int l4, .int l5] [] h nx (oI r nx)) {h : ci_H} {r : Int32 × ci_H} (H : b_X12_rests_102 r_37 r_47 l0 l1 l2 l3 l4 l5 h = some r) : Ev xs N (d + 1) 275 102 [.ref l0, .int l1, .int l2, .int l3, .int l4, .int l5] [] h nx (oI r nx) := by
  unfold b_X12_rests_102 at H
  refine ev_go hc_X12_rests (k := 2) (pc' := 47) (L' := [.ref l0, .int l1, .int l2, .int l3, .int l4, .int (l5 + 1)]) (S' := []) rfl ?_
  exact Ev.weak (ci_le_c (Or.inr rfl) (ci_le_c (Or.inr rfl) (ci_le_c (Or.inr rfl) (ci_le_c (Or.inr rfl) (ci_le_c (Or.inr rfl) (ci_le_c (Or.inr rfl) (ci_le_n))))))) (h_47 _ _ _ _ H)
def b_X12_rests_99 (r_37 : Int32 → Int32 → ci_H → Option (Int32 × ci_H)) (r_47 : Int32 → Int32 → ci_H → Option (Int32 × ci_H)) (l0 : Nat) (l1 : Int32) (l2 : Int32) (l3 : Int32) (l4 : Int32) (l5 : Int32)  (h : ci_H) : Option (Int32 × ci_H) := b_X12_rests_102 r_37 r_47 l0 l1 l2 (l3 + 1) l4 l5 h
set_option maxHeartbeats 4000000 in
set_option maxRecDepth 20000 in
theorem eb_X12_rests_99 {xs : Nat → Int32} {N d : Nat} {nx : ci_N} {r_37 : Int32 → Int32 → ci_H → Option (Int32 × ci_H)} {r_47 : Int32 → Int32 → ci_H → Option (Int32 × ci_H)} {l0 : Nat} {l1 : Int32} {l2 : Int32} {l3 : Int32} {l4 : Int32} {l5 : Int32} (hd : 1 ≤ d) (h_37 : ∀ (l3 : Int32) (l4 : Int32) (h : ci_H) (r : Int32 × ci_H), r_37 l3 l4 h = some r → Ev xs N (d + 1) 275 37 [.ref l0, .int l1, .int l2, .int l3, .int l4, ci_junk] [] h nx (oI r nx)) (h_47 : ∀ (l3 : Int32) (l5 : Int32) (h : ci_H) (r : Int32 × ci_H), r_47 l3 l5 h = some r → Ev xs N (d + 1) 275 47 [.ref l0, .int l1, .int l2, .int l3, .int l4, .int l5] [] h nx (oI r nx)) {h : ci_H} {r : Int32 × ci_H} (H : b_X12_rests_99 r_37 r_47 l0 l1 l2 l3 l4 l5 h = some r) : Ev xs N (d + 1) 275 99 [.ref l0, .int l1, .int l2, .int l3, .int l4, .int l5] [] h nx (oI r nx) := by
  unfold b_X12_rests_99 at H
  refine ev_go hc_X12_rests (k := 1) (pc' := 102) (L' := [.ref l0, .int l1, .int l2, .int (l3 + 1), .int l4, .int l5]) (S' := []) rfl ?_
  exact Ev.weak (ci_le_c (Or.inr rfl) (ci_le_c (Or.inr rfl) (ci_le_c (Or.inr rfl) (ci_le_c (Or.inr rfl) (ci_le_c (Or.inr rfl) (ci_le_c (Or.inr rfl) (ci_le_n))))))) (eb_X12_rests_102 hd h_37 h_47 H)
def b_X12_rests_47 (r_37 : Int32 → Int32 → ci_H → Option (Int32 × ci_H)) (l0 : Nat) (l1 : Int32) (l2 : Int32) (l4 : Int32) : Nat → Int32 → Int32 → ci_H → Option (Int32 × ci_H)
  | 0, _, _, _ => none
  | n + 1, l3, l5, h => if 9 < l5 then (r_37 l3 (l4 + 1) h) else ((F_X12_isBest l4 l5 l1 l2 h).bind fun q2 => if q2.1 = 0 then (b_X12_rests_102 r_37 (fun x0 x1 x2 => b_X12_rests_47 r_37 l0 l1 l2 l4 n x0 x1 x2) l0 l1 l2 l3 l4 l5 q2.2) else ((F_X12_isBest l5 l4 l1 l2 q2.2).bind fun q4 => if q4.1 = 0 then (b_X12_rests_102 r_37 (fun x0 x1 x2 => b_X12_rests_47 r_37 l0 l1 l2 l4 n x0 x1 x2) l0 l1 l2 l3 l4 l5 q4.2) else (if l3 = 0 then ((F_X12_tell l0 ((l4 : Int32).toInt64) q4.2).bind fun h7 => (F_X12_tell l0 ((l5 : Int32).toInt64) h7).bind fun h8 => b_X12_rests_99 r_37 (fun x0 x1 x2 => b_X12_rests_47 r_37 l0 l1 l2 l4 n x0 x1 x2) l0 l1 l2 l3 l4 l5 h8) else (b_X12_rests_99 r_37 (fun x0 x1 x2 => b_X12_rests_47 r_37 l0 l1 l2 l4 n x0 x1 x2) l0 l1 l2 l3 l4 l5 q4.2))))
set_option maxHeartbeats 4000000 in
set_option maxRecDepth 20000 in
theorem eb_X12_rests_47 {xs : Nat → Int32} {N d : Nat} {nx : ci_N} {r_37 : Int32 → Int32 → ci_H → Option (Int32 × ci_H)} {l0 : Nat} {l1 : Int32} {l2 : Int32} {l4 : Int32} (hd : 1 ≤ d) (h_37 : ∀ (l3 : Int32) (l4 : Int32) (h : ci_H) (r : Int32 × ci_H), r_37 l3 l4 h = some r → Ev xs N (d + 1) 275 37 [.ref l0, .int l1, .int l2, .int l3, .int l4, ci_junk] [] h nx (oI r nx)) : ∀ (n : Nat) (l3 : Int32) (l5 : Int32) (h : ci_H) (r : Int32 × ci_H), b_X12_rests_47 r_37 l0 l1 l2 l4 n l3 l5 h = some r → Ev xs N (d + 1) 275 47 [.ref l0, .int l1, .int l2, .int l3, .int l4, .int l5] [] h nx (oI r nx) := by
  intro n
  induction n with
  | zero => intro l3 l5 h r H; unfold b_X12_rests_47 at H; cases H
  | succ n ih =>
    intro l3 l5 h r H
    unfold b_X12_rests_47 at H
    refine ev_go hc_X12_rests (k := 2) (pc' := 51) (L' := [.ref l0, .int l1, .int l2, .int l3, .int l4, .int l5]) (S' := [.int 9, .int l5]) rfl ?_
    by_cases c1 : 9 < l5
    · rw [if_pos c1] at H
      refine ev_bt hc_X12_rests (fe_X12_rests (pc := 51) rfl) rfl c1 ?_
      refine ev_go hc_X12_rests (k := 2) (pc' := 37) (L' := [.ref l0, .int l1, .int l2, .int l3, .int (l4 + 1), .int l5]) (S' := []) rfl ?_
      exact Ev.weak (ci_le_c (Or.inr rfl) (ci_le_c (Or.inr rfl) (ci_le_c (Or.inr rfl) (ci_le_c (Or.inr rfl) (ci_le_c (Or.inr rfl) (ci_le_c (Or.inl rfl) (ci_le_n))))))) (h_37 _ _ _ _ H)
    · rw [if_neg c1] at H
      refine ev_bf hc_X12_rests (fe_X12_rests (pc := 51) rfl) rfl c1 ?_
      refine ev_go hc_X12_rests (k := 4) (pc' := 60) (L' := [.ref l0, .int l1, .int l2, .int l3, .int l4, .int l5]) (S' := [.int l2, .int l1, .int l5, .int l4]) rfl ?_
      obtain ⟨q2, eq2, H⟩ := Option.bind_eq_some_iff.mp H
      refine ev_call (vs := [.int l4, .int l5, .int l1, .int l2]) (rest := []) (q := q_X12_isBest) hc_X12_rests (Or.inl rfl) (fe_X12_rests (pc := 60) rfl) ms_274 rfl rfl (Nat.le_of_ble_eq_true rfl) rfl (E_X12_isBest eq2 (by omega)) rfl ?_
      show Ev xs N (d + 1) 275 63 [.ref l0, .int l1, .int l2, .int l3, .int l4, .int l5] [.int q2.1] q2.2 nx _
      by_cases c3 : q2.1 = 0
      · rw [if_pos c3] at H
        refine ev_bt hc_X12_rests (fe_X12_rests (pc := 63) rfl) rfl c3 ?_
        exact Ev.weak (ci_le_c (Or.inr rfl) (ci_le_c (Or.inr rfl) (ci_le_c (Or.inr rfl) (ci_le_c (Or.inr rfl) (ci_le_c (Or.inr rfl) (ci_le_c (Or.inr rfl) (ci_le_n))))))) (eb_X12_rests_102 hd h_37 ih H)
      · rw [if_neg c3] at H
        refine ev_bf hc_X12_rests (fe_X12_rests (pc := 63) rfl) rfl c3 ?_
        refine ev_go hc_X12_rests (k := 4) (pc' := 72) (L' := [.ref l0, .int l1, .int l2, .int l3, .int l4, .int l5]) (S' := [.int l2, .int l1, .int l4, .int l5]) rfl ?_
        obtain ⟨q4, eq4, H⟩ := Option.bind_eq_some_iff.mp H
        refine ev_call (vs := [.int l5, .int l4, .int l1, .int l2]) (rest := []) (q := q_X12_isBest) hc_X12_rests (Or.inl rfl) (fe_X12_rests (pc := 72) rfl) ms_274 rfl rfl (Nat.le_of_ble_eq_true rfl) rfl (E_X12_isBest eq4 (by omega)) rfl ?_
        show Ev xs N (d + 1) 275 75 [.ref l0, .int l1, .int l2, .int l3, .int l4, .int l5] [.int q4.1] q4.2 nx _
        by_cases c5 : q4.1 = 0
        · rw [if_pos c5] at H
          refine ev_bt hc_X12_rests (fe_X12_rests (pc := 75) rfl) rfl c5 ?_
          refine ev_go hc_X12_rests (k := 1) (pc' := 102) (L' := [.ref l0, .int l1, .int l2, .int l3, .int l4, .int l5]) (S' := []) rfl ?_
          exact Ev.weak (ci_le_c (Or.inr rfl) (ci_le_c (Or.inr rfl) (ci_le_c (Or.inr rfl) (ci_le_c (Or.inr rfl) (ci_le_c (Or.inr rfl) (ci_le_c (Or.inr rfl) (ci_le_n))))))) (eb_X12_rests_102 hd h_37 ih H)
        · rw [if_neg c5] at H
          refine ev_bf hc_X12_rests (fe_X12_rests (pc := 75) rfl) rfl c5 ?_
          refine ev_go hc_X12_rests (k := 1) (pc' := 82) (L' := [.ref l0, .int l1, .int l2, .int l3, .int l4, .int l5]) (S' := [.int l3]) rfl ?_
          by_cases c6 : l3 = 0
          · rw [if_pos c6] at H
            refine ev_bt hc_X12_rests (fe_X12_rests (pc := 82) rfl) rfl c6 ?_
            refine ev_go hc_X12_rests (k := 3) (pc' := 89) (L' := [.ref l0, .int l1, .int l2, .int l3, .int l4, .int l5]) (S' := [.long ((l4 : Int32).toInt64), .ref l0]) rfl ?_
            obtain ⟨h7, eh7, H⟩ := Option.bind_eq_some_iff.mp H
            refine ev_call (vs := [.ref l0, .long ((l4 : Int32).toInt64)]) (rest := []) (q := q_X12_tell) hc_X12_rests (Or.inr rfl) (fe_X12_rests (pc := 89) rfl) ms_173 rfl rfl (Nat.le_of_ble_eq_true rfl) (kO_recv (K_X12_tell eh7)) (E_X12_tell eh7 (by omega)) rfl ?_
            show Ev xs N (d + 1) 275 92 [.ref l0, .int l1, .int l2, .int l3, .int l4, .int l5] [] h7 nx _
            refine ev_go hc_X12_rests (k := 3) (pc' := 96) (L' := [.ref l0, .int l1, .int l2, .int l3, .int l4, .int l5]) (S' := [.long ((l5 : Int32).toInt64), .ref l0]) rfl ?_
            obtain ⟨h8, eh8, H⟩ := Option.bind_eq_some_iff.mp H
            refine ev_call (vs := [.ref l0, .long ((l5 : Int32).toInt64)]) (rest := []) (q := q_X12_tell) hc_X12_rests (Or.inr rfl) (fe_X12_rests (pc := 96) rfl) ms_173 rfl rfl (Nat.le_of_ble_eq_true rfl) (kO_recv (K_X12_tell eh8)) (E_X12_tell eh8 (by omega)) rfl ?_
            show Ev xs N (d + 1) 275 99 [.ref l0, .int l1, .int l2, .int l3, .int l4, .int l5] [] h8 nx _
            exact Ev.weak (ci_le_c (Or.inr rfl) (ci_le_c (Or.inr rfl) (ci_le_c (Or.inr rfl) (ci_le_c (Or.inr rfl) (ci_le_c (Or.inr rfl) (ci_le_c (Or.inr rfl) (ci_le_n))))))) (eb_X12_rests_99 hd h_37 ih H)
          · rw [if_neg c6] at H
            refine ev_bf hc_X12_rests (fe_X12_rests (pc := 82) rfl) rfl c6 ?_
            exact Ev.weak (ci_le_c (Or.inr rfl) (ci_le_c (Or.inr rfl) (ci_le_c (Or.inr rfl) (ci_le_c (Or.inr rfl) (ci_le_c (Or.inr rfl) (ci_le_c (Or.inr rfl) (ci_le_n))))))) (eb_X12_rests_99 hd h_37 ih H)
def b_X12_rests_37 (l0 : Nat) (l1 : Int32) (l2 : Int32) : Nat → Int32 → Int32 → ci_H → Option (Int32 × ci_H)
  | 0, _, _, _ => none
  | n + 1, l3, l4, h => if 9 < l4 then (some (l3, h)) else (b_X12_rests_47 (fun x0 x1 x2 => b_X12_rests_37 l0 l1 l2 n x0 x1 x2) l0 l1 l2 l4 bigN l3 0 h)
set_option maxHeartbeats 4000000 in
set_option maxRecDepth 20000 in
theorem eb_X12_rests_37 {xs : Nat → Int32} {N d : Nat} {nx : ci_N} {l0 : Nat} {l1 : Int32} {l2 : Int32} (hd : 1 ≤ d) : ∀ (n : Nat) (l3 : Int32) (l4 : Int32) (h : ci_H) (r : Int32 × ci_H), b_X12_rests_37 l0 l1 l2 n l3 l4 h = some r → Ev xs N (d + 1) 275 37 [.ref l0, .int l1, .int l2, .int l3, .int l4, ci_junk] [] h nx (oI r nx) := by
  intro n
  induction n with
  | zero => intro l3 l4 h r H; unfold b_X12_rests_37 at H; cases H
  | succ n ih =>
    intro l3 l4 h r H
    unfold b_X12_rests_37 at H
    refine ev_go hc_X12_rests (k := 2) (pc' := 41) (L' := [.ref l0, .int l1, .int l2, .int l3, .int l4, ci_junk]) (S' := [.int 9, .int l4]) rfl ?_
    by_cases c1 : 9 < l4
    · rw [if_pos c1] at H
      refine ev_bt hc_X12_rests (fe_X12_rests (pc := 41) rfl) rfl c1 ?_
      refine ev_go hc_X12_rests (k := 1) (pc' := 115) (L' := [.ref l0, .int l1, .int l2, .int l3, .int l4, ci_junk]) (S' := [.int l3]) rfl ?_
      obtain rfl := Option.some.inj H
      exact ev_8 hc_X12_rests (fe_X12_rests (pc := 115) rfl) rfl
    · rw [if_neg c1] at H
      refine ev_bf hc_X12_rests (fe_X12_rests (pc := 41) rfl) rfl c1 ?_
      refine ev_go hc_X12_rests (k := 2) (pc' := 47) (L' := [.ref l0, .int l1, .int l2, .int l3, .int l4, .int 0]) (S' := []) rfl ?_
      exact Ev.weak (ci_le_c (Or.inr rfl) (ci_le_c (Or.inr rfl) (ci_le_c (Or.inr rfl) (ci_le_c (Or.inr rfl) (ci_le_c (Or.inr rfl) (ci_le_c (Or.inr rfl) (ci_le_n))))))) (eb_X12_rests_47 hd ih bigN _ _ _ _ H)
def F_X12_rests (a0 : Nat) (a1 : Int32) (a2 : Int32) (h : ci_H) : Option (Int32 × ci_H) := if kO h a0 = some 12 then ((pF h a0 12 11 (.int 0)).bind fun h1 => (F_X12_in a1 0 99 h1).bind fun q2 => if q2.1 = 0 then (some ((-1), q2.2)) else ((F_X12_in a2 0 9 q2.2).bind fun q4 => if q4.1 = 0 then (some ((-1), q4.2)) else ((pF q4.2 a0 12 10 (.int 0)).bind fun h6 => b_X12_rests_37 a0 a1 a2 bigN 0 0 h6))) else none
theorem K_X12_rests {a0 : Nat} {a1 : Int32} {a2 : Int32} {h : ci_H} {r : Int32 × ci_H} (H : F_X12_rests a0 a1 a2 h = some r) : kO h a0 = some 12 := by
  unfold F_X12_rests at H
  by_cases c : kO h a0 = some 12
  · exact c
  · rw [if_neg c] at H; cases H
set_option maxHeartbeats 4000000 in
set_option maxRecDepth 20000 in
theorem E_X12_rests {xs : Nat → Int32} {N d : Nat} {nx : ci_N} {a0 : Nat} {a1 : Int32} {a2 : Int32} {h : ci_H} {r : Int32 × ci_H} (H : F_X12_rests a0 a1 a2 h = some r) (hd : 2 ≤ d) : Ev xs N d 275 0 (ci_entry [.ref a0, .int a1, .int a2] 6) [] h nx (oI r nx) := by
  obtain ⟨d, rfl⟩ : ∃ d2, d = d2 + 1 := ⟨d - 1, by omega⟩
  have hd : 1 ≤ d := by omega
  unfold F_X12_rests at H
  by_cases ck : kO h a0 = some 12
  · rw [if_pos ck] at H
    show Ev xs N (d + 1) 275 0 [.ref a0, .int a1, .int a2, ci_junk, ci_junk, ci_junk] [] h nx _
    refine ev_go hc_X12_rests (k := 2) (pc' := 2) (L' := [.ref a0, .int a1, .int a2, ci_junk, ci_junk, ci_junk]) (S' := [.int 0, .ref a0]) rfl ?_
    obtain ⟨h1, eh1, H⟩ := Option.bind_eq_some_iff.mp H
    refine ev_5 hc_X12_rests (fe_X12_rests (pc := 2) rfl) (pF_pf eh1) ?_
    refine ev_go hc_X12_rests (k := 3) (pc' := 9) (L' := [.ref a0, .int a1, .int a2, ci_junk, ci_junk, ci_junk]) (S' := [.int 99, .int 0, .int a1]) rfl ?_
    obtain ⟨q2, eq2, H⟩ := Option.bind_eq_some_iff.mp H
    refine ev_call (vs := [.int a1, .int 0, .int 99]) (rest := []) (q := q_X12_in) hc_X12_rests (Or.inl rfl) (fe_X12_rests (pc := 9) rfl) ms_170 rfl rfl (Nat.le_of_ble_eq_true rfl) rfl (E_X12_in eq2 (by omega)) rfl ?_
    show Ev xs N (d + 1) 275 12 [.ref a0, .int a1, .int a2, ci_junk, ci_junk, ci_junk] [.int q2.1] q2.2 nx _
    by_cases c3 : q2.1 = 0
    · rw [if_pos c3] at H
      refine ev_bt hc_X12_rests (fe_X12_rests (pc := 12) rfl) rfl c3 ?_
      refine ev_go hc_X12_rests (k := 1) (pc' := 26) (L' := [.ref a0, .int a1, .int a2, ci_junk, ci_junk, ci_junk]) (S' := [.int ((-1))]) rfl ?_
      obtain rfl := Option.some.inj H
      exact ev_8 hc_X12_rests (fe_X12_rests (pc := 26) rfl) rfl
    · rw [if_neg c3] at H
      refine ev_bf hc_X12_rests (fe_X12_rests (pc := 12) rfl) rfl c3 ?_
      refine ev_go hc_X12_rests (k := 3) (pc' := 19) (L' := [.ref a0, .int a1, .int a2, ci_junk, ci_junk, ci_junk]) (S' := [.int 9, .int 0, .int a2]) rfl ?_
      obtain ⟨q4, eq4, H⟩ := Option.bind_eq_some_iff.mp H
      refine ev_call (vs := [.int a2, .int 0, .int 9]) (rest := []) (q := q_X12_in) hc_X12_rests (Or.inl rfl) (fe_X12_rests (pc := 19) rfl) ms_170 rfl rfl (Nat.le_of_ble_eq_true rfl) rfl (E_X12_in eq4 (by omega)) rfl ?_
      show Ev xs N (d + 1) 275 22 [.ref a0, .int a1, .int a2, ci_junk, ci_junk, ci_junk] [.int q4.1] q4.2 nx _
      by_cases c5 : q4.1 = 0
      · rw [if_pos c5] at H
        refine ev_bt hc_X12_rests (fe_X12_rests (pc := 22) rfl) rfl c5 ?_
        refine ev_go hc_X12_rests (k := 1) (pc' := 26) (L' := [.ref a0, .int a1, .int a2, ci_junk, ci_junk, ci_junk]) (S' := [.int ((-1))]) rfl ?_
        obtain rfl := Option.some.inj H
        exact ev_8 hc_X12_rests (fe_X12_rests (pc := 26) rfl) rfl
      · rw [if_neg c5] at H
        refine ev_bf hc_X12_rests (fe_X12_rests (pc := 22) rfl) rfl c5 ?_
        refine ev_go hc_X12_rests (k := 4) (pc' := 31) (L' := [.ref a0, .int a1, .int a2, .int 0, ci_junk, ci_junk]) (S' := [.int 0, .ref a0]) rfl ?_
        obtain ⟨h6, eh6, H⟩ := Option.bind_eq_some_iff.mp H
        refine ev_5 hc_X12_rests (fe_X12_rests (pc := 31) rfl) (pF_pf eh6) ?_
        refine ev_go hc_X12_rests (k := 2) (pc' := 37) (L' := [.ref a0, .int a1, .int a2, .int 0, .int 0, ci_junk]) (S' := []) rfl ?_
        exact Ev.weak (ci_le_c (Or.inr rfl) (ci_le_c (Or.inr rfl) (ci_le_c (Or.inr rfl) (ci_le_c (Or.inr rfl) (ci_le_c (Or.inr rfl) (ci_le_c (Or.inl rfl) (ci_le_n))))))) (eb_X12_rests_37 hd bigN _ _ _ _ H)
  · rw [if_neg ck] at H; cases H
theorem hc_X12_draw : ci_code (ci_Ms 276) = k_X12_draw := rfl
theorem fe_X12_draw {pc : Nat} {w : Option ci_I} (h : (k_X12_draw)[pc]? = some w) : (k_X12_draw)[pc]? = some w := h
def F_X12_draw (a0 : Nat) (a1 : Int32) (h : ci_H) : Option (Int32 × ci_H) := if kO h a0 = some 12 then ((gI h a0 12 38).bind fun v1 => (pF h a0 12 38 (.int ((v1 * 1103515245) + 12345))).bind fun h2 => (gI h2 a0 12 38).bind fun v3 => (rmI (((v3 : Int32).toUInt32 >>> ((16 : Int32).toUInt32 &&& Int32.toUInt32 31)).toInt32) a1).bind fun v4 => some (v4, h2)) else none
theorem K_X12_draw {a0 : Nat} {a1 : Int32} {h : ci_H} {r : Int32 × ci_H} (H : F_X12_draw a0 a1 h = some r) : kO h a0 = some 12 := by
  unfold F_X12_draw at H
  by_cases c : kO h a0 = some 12
  · exact c
  · rw [if_neg c] at H; cases H
set_option maxHeartbeats 4000000 in
set_option maxRecDepth 20000 in
theorem E_X12_draw {xs : Nat → Int32} {N d : Nat} {nx : ci_N} {a0 : Nat} {a1 : Int32} {h : ci_H} {r : Int32 × ci_H} (H : F_X12_draw a0 a1 h = some r) (hd : 0 ≤ d) : Ev xs N d 276 0 (ci_entry [.ref a0, .int a1] 2) [] h nx (oI r nx) := by
  unfold F_X12_draw at H
  by_cases ck : kO h a0 = some 12
  · rw [if_pos ck] at H
    show Ev xs N d 276 0 [.ref a0, .int a1] [] h nx _
    refine ev_go hc_X12_draw (k := 2) (pc' := 2) (L' := [.ref a0, .int a1]) (S' := [.ref a0, .ref a0]) rfl ?_
    obtain ⟨v1, ev1, H⟩ := Option.bind_eq_some_iff.mp H
    refine ev_4 hc_X12_draw (fe_X12_draw (pc := 2) rfl) (gI_gf ev1) ?_
    refine ev_go hc_X12_draw (k := 4) (pc' := 13) (L' := [.ref a0, .int a1]) (S' := [.int ((v1 * 1103515245) + 12345), .ref a0]) rfl ?_
    obtain ⟨h2, eh2, H⟩ := Option.bind_eq_some_iff.mp H
    refine ev_5 hc_X12_draw (fe_X12_draw (pc := 13) rfl) (pF_pf eh2) ?_
    refine ev_go hc_X12_draw (k := 1) (pc' := 17) (L' := [.ref a0, .int a1]) (S' := [.ref a0]) rfl ?_
    obtain ⟨v3, ev3, H⟩ := Option.bind_eq_some_iff.mp H
    refine ev_4 hc_X12_draw (fe_X12_draw (pc := 17) rfl) (gI_gf ev3) ?_
    refine ev_go hc_X12_draw (k := 3) (pc' := 24) (L' := [.ref a0, .int a1]) (S' := [.int a1, .int (((v3 : Int32).toUInt32 >>> ((16 : Int32).toUInt32 &&& Int32.toUInt32 31)).toInt32)]) rfl ?_
    obtain ⟨v4, ev4, H⟩ := Option.bind_eq_some_iff.mp H
    refine ev_1 hc_X12_draw (fe_X12_draw (pc := 24) rfl) (rmI_st ev4) ?_
    obtain rfl := Option.some.inj H
    exact ev_8 hc_X12_draw (fe_X12_draw (pc := 25) rfl) rfl
  · rw [if_neg ck] at H; cases H
theorem hc_X12_years : ci_code (ci_Ms 277) = k_X12_years := rfl
theorem fe_X12_years {pc : Nat} {w : Option ci_I} (h : (k_X12_years)[pc]? = some w) : (k_X12_years)[pc]? = some w := h
def b_X12_years_106 (r_52 : Int32 → Int32 → Int32 → ci_H → Option (Int32 × ci_H)) (l0 : Nat) (l2 : Int32) (l3 : Int32) (l4 : Int32) (l5 : Int32)  (h : ci_H) : Option (Int32 × ci_H) := (gR h l0 12 25).bind fun v1 => (F_X12_goHour l0 v1 h).bind fun q2 => (F_J6_bitCount_0f7a4 q2.1 q2.2).bind fun q3 => r_52 (l3 + q3.1) l4 (l5 + 1) q3.2
set_option maxHeartbeats 4000000 in
set_option maxRecDepth 20000 in
theorem eb_X12_years_106 {xs : Nat → Int32} {N d : Nat} {nx : ci_N} {r_52 : Int32 → Int32 → Int32 → ci_H → Option (Int32 × ci_H)} {l0 : Nat} {l2 : Int32} {l3 : Int32} {l4 : Int32} {l5 : Int32} (hd : 4 ≤ d) (h_52 : ∀ (l3 : Int32) (l4 : Int32) (l5 : Int32) (h : ci_H) (r : Int32 × ci_H), r_52 l3 l4 l5 h = some r → Ev xs N (d + 1) 277 52 [.ref l0, ci_junk, .int l2, .int l3, .int l4, .int l5, ci_junk, ci_junk] [] h nx (oI r nx)) {h : ci_H} {r : Int32 × ci_H} (H : b_X12_years_106 r_52 l0 l2 l3 l4 l5 h = some r) : Ev xs N (d + 1) 277 106 [.ref l0, ci_junk, .int l2, .int l3, .int l4, .int l5, ci_junk, ci_junk] [] h nx (oI r nx) := by
  unfold b_X12_years_106 at H
  refine ev_go hc_X12_years (k := 3) (pc' := 109) (L' := [.ref l0, ci_junk, .int l2, .int l3, .int l4, .int l5, ci_junk, ci_junk]) (S' := [.ref l0, .ref l0, .int l3]) rfl ?_
  obtain ⟨v1, ev1, H⟩ := Option.bind_eq_some_iff.mp H
  refine ev_4 hc_X12_years (fe_X12_years (pc := 109) rfl) (gR_gf ev1) ?_
  obtain ⟨q2, eq2, H⟩ := Option.bind_eq_some_iff.mp H
  refine ev_call (vs := [.ref l0, .ref v1]) (rest := [.int l3]) (q := q_X12_goHour) hc_X12_years (Or.inr rfl) (fe_X12_years (pc := 112) rfl) ms_233 rfl rfl (Nat.le_of_ble_eq_true rfl) (kO_recv (K_X12_goHour eq2)) (E_X12_goHour eq2 (by omega)) rfl ?_
  show Ev xs N (d + 1) 277 115 [.ref l0, ci_junk, .int l2, .int l3, .int l4, .int l5, ci_junk, ci_junk] [.int q2.1, .int l3] q2.2 nx _
  obtain ⟨q3, eq3, H⟩ := Option.bind_eq_some_iff.mp H
  refine ev_call (vs := [.int q2.1]) (rest := [.int l3]) (q := q_J6_bitCount_0f7a4) hc_X12_years (Or.inl rfl) (fe_X12_years (pc := 115) rfl) ms_285 rfl rfl (Nat.le_of_ble_eq_true rfl) rfl (E_J6_bitCount_0f7a4 eq3 (by omega)) rfl ?_
  show Ev xs N (d + 1) 277 118 [.ref l0, ci_junk, .int l2, .int l3, .int l4, .int l5, ci_junk, ci_junk] [.int q3.1, .int l3] q3.2 nx _
  refine ev_go hc_X12_years (k := 4) (pc' := 52) (L' := [.ref l0, ci_junk, .int l2, .int (l3 + q3.1), .int l4, .int (l5 + 1), ci_junk, ci_junk]) (S' := []) rfl ?_
  exact Ev.weak (ci_le_c (Or.inr rfl) (ci_le_c (Or.inl rfl) (ci_le_c (Or.inr rfl) (ci_le_c (Or.inr rfl) (ci_le_c (Or.inr rfl) (ci_le_c (Or.inr rfl) (ci_le_c (Or.inl rfl) (ci_le_c (Or.inl rfl) (ci_le_n))))))))) (h_52 _ _ _ _ _ H)
def b_X12_years_52 (l0 : Nat) (l2 : Int32) : Nat → Int32 → Int32 → Int32 → ci_H → Option (Int32 × ci_H)
  | 0, _, _, _, _ => none
  | n + 1, l3, l4, l5, h => if l2 ≤ l5 then ((pF h l0 12 10 (.int 0)).bind fun h2 => (F_X12_tell l0 ((l4 : Int32).toInt64) h2).bind fun h3 => (gR h3 l0 12 25).bind fun v4 => (F_X12_brokenHouses l0 v4 h3).bind fun q5 => (F_J6_bitCount_0f7a4 q5.1 q5.2).bind fun q6 => (F_X12_tell l0 ((q6.1 : Int32).toInt64) q6.2).bind fun h7 => some (l3, h7)) else ((gI h l0 12 2).bind fun v8 => (F_X12_draw l0 v8 h).bind fun q9 => (gI q9.2 l0 12 1).bind fun v10 => (F_X12_draw l0 v10 q9.2).bind fun q11 => (gR q11.2 l0 12 25).bind fun v12 => (rI q11.2 v12 (12 + q9.1)).bind fun v13 => if v13 = ((-1)) then (b_X12_years_106 (fun x0 x1 x2 x3 => b_X12_years_52 l0 l2 n x0 x1 x2 x3) l0 l2 l3 l4 l5 q11.2) else ((gR q11.2 l0 12 25).bind fun v15 => (F_X12_belong v15 q9.1 q11.1 q11.2).bind fun h16 => b_X12_years_106 (fun x0 x1 x2 x3 => b_X12_years_52 l0 l2 n x0 x1 x2 x3) l0 l2 l3 (l4 + 1) l5 h16))
set_option maxHeartbeats 4000000 in
set_option maxRecDepth 20000 in
theorem eb_X12_years_52 {xs : Nat → Int32} {N d : Nat} {nx : ci_N} {l0 : Nat} {l2 : Int32} (hd : 4 ≤ d) : ∀ (n : Nat) (l3 : Int32) (l4 : Int32) (l5 : Int32) (h : ci_H) (r : Int32 × ci_H), b_X12_years_52 l0 l2 n l3 l4 l5 h = some r → Ev xs N (d + 1) 277 52 [.ref l0, ci_junk, .int l2, .int l3, .int l4, .int l5, ci_junk, ci_junk] [] h nx (oI r nx) := by
  intro n
  induction n with
  | zero => intro l3 l4 l5 h r H; unfold b_X12_years_52 at H; cases H
  | succ n ih =>
    intro l3 l4 l5 h r H
    unfold b_X12_years_52 at H
    refine ev_go hc_X12_years (k := 2) (pc' := 55) (L' := [.ref l0, ci_junk, .int l2, .int l3, .int l4, .int l5, ci_junk, ci_junk]) (S' := [.int l2, .int l5]) rfl ?_
    by_cases c1 : l2 ≤ l5
    · rw [if_pos c1] at H
      refine ev_bt hc_X12_years (fe_X12_years (pc := 55) rfl) rfl c1 ?_
      refine ev_go hc_X12_years (k := 2) (pc' := 128) (L' := [.ref l0, ci_junk, .int l2, .int l3, .int l4, .int l5, ci_junk, ci_junk]) (S' := [.int 0, .ref l0]) rfl ?_
      obtain ⟨h2, eh2, H⟩ := Option.bind_eq_some_iff.mp H
      refine ev_5 hc_X12_years (fe_X12_years (pc := 128) rfl) (pF_pf eh2) ?_
      refine ev_go hc_X12_years (k := 3) (pc' := 135) (L' := [.ref l0, ci_junk, .int l2, .int l3, .int l4, .int l5, ci_junk, ci_junk]) (S' := [.long ((l4 : Int32).toInt64), .ref l0]) rfl ?_
      obtain ⟨h3, eh3, H⟩ := Option.bind_eq_some_iff.mp H
      refine ev_call (vs := [.ref l0, .long ((l4 : Int32).toInt64)]) (rest := []) (q := q_X12_tell) hc_X12_years (Or.inr rfl) (fe_X12_years (pc := 135) rfl) ms_173 rfl rfl (Nat.le_of_ble_eq_true rfl) (kO_recv (K_X12_tell eh3)) (E_X12_tell eh3 (by omega)) rfl ?_
      show Ev xs N (d + 1) 277 138 [.ref l0, ci_junk, .int l2, .int l3, .int l4, .int l5, ci_junk, ci_junk] [] h3 nx _
      refine ev_go hc_X12_years (k := 3) (pc' := 141) (L' := [.ref l0, ci_junk, .int l2, .int l3, .int l4, .int l5, ci_junk, ci_junk]) (S' := [.ref l0, .ref l0, .ref l0]) rfl ?_
      obtain ⟨v4, ev4, H⟩ := Option.bind_eq_some_iff.mp H
      refine ev_4 hc_X12_years (fe_X12_years (pc := 141) rfl) (gR_gf ev4) ?_
      obtain ⟨q5, eq5, H⟩ := Option.bind_eq_some_iff.mp H
      refine ev_call (vs := [.ref l0, .ref v4]) (rest := [.ref l0]) (q := q_X12_brokenHouses) hc_X12_years (Or.inr rfl) (fe_X12_years (pc := 144) rfl) ms_207 rfl rfl (Nat.le_of_ble_eq_true rfl) (kO_recv (K_X12_brokenHouses eq5)) (E_X12_brokenHouses eq5 (by omega)) rfl ?_
      show Ev xs N (d + 1) 277 147 [.ref l0, ci_junk, .int l2, .int l3, .int l4, .int l5, ci_junk, ci_junk] [.int q5.1, .ref l0] q5.2 nx _
      obtain ⟨q6, eq6, H⟩ := Option.bind_eq_some_iff.mp H
      refine ev_call (vs := [.int q5.1]) (rest := [.ref l0]) (q := q_J6_bitCount_0f7a4) hc_X12_years (Or.inl rfl) (fe_X12_years (pc := 147) rfl) ms_285 rfl rfl (Nat.le_of_ble_eq_true rfl) rfl (E_J6_bitCount_0f7a4 eq6 (by omega)) rfl ?_
      show Ev xs N (d + 1) 277 150 [.ref l0, ci_junk, .int l2, .int l3, .int l4, .int l5, ci_junk, ci_junk] [.int q6.1, .ref l0] q6.2 nx _
      refine ev_go hc_X12_years (k := 1) (pc' := 151) (L' := [.ref l0, ci_junk, .int l2, .int l3, .int l4, .int l5, ci_junk, ci_junk]) (S' := [.long ((q6.1 : Int32).toInt64), .ref l0]) rfl ?_
      obtain ⟨h7, eh7, H⟩ := Option.bind_eq_some_iff.mp H
      refine ev_call (vs := [.ref l0, .long ((q6.1 : Int32).toInt64)]) (rest := []) (q := q_X12_tell) hc_X12_years (Or.inr rfl) (fe_X12_years (pc := 151) rfl) ms_173 rfl rfl (Nat.le_of_ble_eq_true rfl) (kO_recv (K_X12_tell eh7)) (E_X12_tell eh7 (by omega)) rfl ?_
      show Ev xs N (d + 1) 277 154 [.ref l0, ci_junk, .int l2, .int l3, .int l4, .int l5, ci_junk, ci_junk] [] h7 nx _
      refine ev_go hc_X12_years (k := 1) (pc' := 155) (L' := [.ref l0, ci_junk, .int l2, .int l3, .int l4, .int l5, ci_junk, ci_junk]) (S' := [.int l3]) rfl ?_
      obtain rfl := Option.some.inj H
      exact ev_8 hc_X12_years (fe_X12_years (pc := 155) rfl) rfl
    · rw [if_neg c1] at H
      refine ev_bf hc_X12_years (fe_X12_years (pc := 55) rfl) rfl c1 ?_
      refine ev_go hc_X12_years (k := 2) (pc' := 60) (L' := [.ref l0, ci_junk, .int l2, .int l3, .int l4, .int l5, ci_junk, ci_junk]) (S' := [.ref l0, .ref l0]) rfl ?_
      obtain ⟨v8, ev8, H⟩ := Option.bind_eq_some_iff.mp H
      refine ev_4 hc_X12_years (fe_X12_years (pc := 60) rfl) (gI_gf ev8) ?_
      obtain ⟨q9, eq9, H⟩ := Option.bind_eq_some_iff.mp H
      refine ev_call (vs := [.ref l0, .int v8]) (rest := []) (q := q_X12_draw) hc_X12_years (Or.inr rfl) (fe_X12_years (pc := 63) rfl) ms_276 rfl rfl (Nat.le_of_ble_eq_true rfl) (kO_recv (K_X12_draw eq9)) (E_X12_draw eq9 (by omega)) rfl ?_
      show Ev xs N (d + 1) 277 66 [.ref l0, ci_junk, .int l2, .int l3, .int l4, .int l5, ci_junk, ci_junk] [.int q9.1] q9.2 nx _
      refine ev_go hc_X12_years (k := 3) (pc' := 70) (L' := [.ref l0, ci_junk, .int l2, .int l3, .int l4, .int l5, .int q9.1, ci_junk]) (S' := [.ref l0, .ref l0]) rfl ?_
      obtain ⟨v10, ev10, H⟩ := Option.bind_eq_some_iff.mp H
      refine ev_4 hc_X12_years (fe_X12_years (pc := 70) rfl) (gI_gf ev10) ?_
      obtain ⟨q11, eq11, H⟩ := Option.bind_eq_some_iff.mp H
      refine ev_call (vs := [.ref l0, .int v10]) (rest := []) (q := q_X12_draw) hc_X12_years (Or.inr rfl) (fe_X12_years (pc := 73) rfl) ms_276 rfl rfl (Nat.le_of_ble_eq_true rfl) (kO_recv (K_X12_draw eq11)) (E_X12_draw eq11 (by omega)) rfl ?_
      show Ev xs N (d + 1) 277 76 [.ref l0, ci_junk, .int l2, .int l3, .int l4, .int l5, .int q9.1, ci_junk] [.int q11.1] q11.2 nx _
      refine ev_go hc_X12_years (k := 2) (pc' := 79) (L' := [.ref l0, ci_junk, .int l2, .int l3, .int l4, .int l5, .int q9.1, .int q11.1]) (S' := [.ref l0]) rfl ?_
      obtain ⟨v12, ev12, H⟩ := Option.bind_eq_some_iff.mp H
      refine ev_4 hc_X12_years (fe_X12_years (pc := 79) rfl) (gR_gf ev12) ?_
      refine ev_go hc_X12_years (k := 3) (pc' := 87) (L' := [.ref l0, ci_junk, .int l2, .int l3, .int l4, .int l5, .int q9.1, .int q11.1]) (S' := [.int (12 + q9.1), .ref v12]) rfl ?_
      obtain ⟨v13, ev13, H⟩ := Option.bind_eq_some_iff.mp H
      refine ev_4 hc_X12_years (fe_X12_years (pc := 87) rfl) (rI_al ev13) ?_
      refine ev_go hc_X12_years (k := 1) (pc' := 89) (L' := [.ref l0, ci_junk, .int l2, .int l3, .int l4, .int l5, .int q9.1, .int q11.1]) (S' := [.int ((-1)), .int v13]) rfl ?_
      by_cases c14 : v13 = ((-1))
      · rw [if_pos c14] at H
        refine ev_bt hc_X12_years (fe_X12_years (pc := 89) rfl) rfl c14 ?_
        exact Ev.weak (ci_le_c (Or.inr rfl) (ci_le_c (Or.inl rfl) (ci_le_c (Or.inr rfl) (ci_le_c (Or.inr rfl) (ci_le_c (Or.inr rfl) (ci_le_c (Or.inr rfl) (ci_le_c (Or.inl rfl) (ci_le_c (Or.inl rfl) (ci_le_n))))))))) (eb_X12_years_106 hd ih H)
      · rw [if_neg c14] at H
        refine ev_bf hc_X12_years (fe_X12_years (pc := 89) rfl) rfl c14 ?_
        refine ev_go hc_X12_years (k := 1) (pc' := 93) (L' := [.ref l0, ci_junk, .int l2, .int l3, .int l4, .int l5, .int q9.1, .int q11.1]) (S' := [.ref l0]) rfl ?_
        obtain ⟨v15, ev15, H⟩ := Option.bind_eq_some_iff.mp H
        refine ev_4 hc_X12_years (fe_X12_years (pc := 93) rfl) (gR_gf ev15) ?_
        refine ev_go hc_X12_years (k := 2) (pc' := 100) (L' := [.ref l0, ci_junk, .int l2, .int l3, .int l4, .int l5, .int q9.1, .int q11.1]) (S' := [.int q11.1, .int q9.1, .ref v15]) rfl ?_
        obtain ⟨h16, eh16, H⟩ := Option.bind_eq_some_iff.mp H
        refine ev_call (vs := [.ref v15, .int q9.1, .int q11.1]) (rest := []) (q := q_X12_belong) hc_X12_years (Or.inl rfl) (fe_X12_years (pc := 100) rfl) ms_221 rfl rfl (Nat.le_of_ble_eq_true rfl) rfl (E_X12_belong eh16 (by omega)) rfl ?_
        show Ev xs N (d + 1) 277 103 [.ref l0, ci_junk, .int l2, .int l3, .int l4, .int l5, .int q9.1, .int q11.1] [] h16 nx _
        refine ev_go hc_X12_years (k := 1) (pc' := 106) (L' := [.ref l0, ci_junk, .int l2, .int l3, .int (l4 + 1), .int l5, .int q9.1, .int q11.1]) (S' := []) rfl ?_
        exact Ev.weak (ci_le_c (Or.inr rfl) (ci_le_c (Or.inl rfl) (ci_le_c (Or.inr rfl) (ci_le_c (Or.inr rfl) (ci_le_c (Or.inr rfl) (ci_le_c (Or.inr rfl) (ci_le_c (Or.inl rfl) (ci_le_c (Or.inl rfl) (ci_le_n))))))))) (eb_X12_years_106 hd ih H)
def F_X12_years (a0 : Nat) (a1 : Int32) (a2 : Int32) (h : ci_H) : Option (Int32 × ci_H) := if kO h a0 = some 12 then ((pF h a0 12 11 (.int 0)).bind fun h1 => (gI h1 a0 12 2).bind fun v2 => if v2 = 0 then (some ((-2), h1)) else ((F_X12_in a2 1 60 h1).bind fun q4 => if q4.1 = 0 then (some ((-1), q4.2)) else ((pF q4.2 a0 12 38 (.int a1)).bind fun h6 => (gR h6 a0 12 0).bind fun v7 => (gR h6 a0 12 25).bind fun v8 => (F_X12_lay v7 v8 0 h6).bind fun h9 => b_X12_years_52 a0 a2 bigN 0 0 0 h9))) else none
theorem K_X12_years {a0 : Nat} {a1 : Int32} {a2 : Int32} {h : ci_H} {r : Int32 × ci_H} (H : F_X12_years a0 a1 a2 h = some r) : kO h a0 = some 12 := by
  unfold F_X12_years at H
  by_cases c : kO h a0 = some 12
  · exact c
  · rw [if_neg c] at H; cases H
set_option maxHeartbeats 4000000 in
set_option maxRecDepth 20000 in
theorem E_X12_years {xs : Nat → Int32} {N d : Nat} {nx : ci_N} {a0 : Nat} {a1 : Int32} {a2 : Int32} {h : ci_H} {r : Int32 × ci_H} (H : F_X12_years a0 a1 a2 h = some r) (hd : 5 ≤ d) : Ev xs N d 277 0 (ci_entry [.ref a0, .int a1, .int a2] 8) [] h nx (oI r nx) := by
  obtain ⟨d, rfl⟩ : ∃ d2, d = d2 + 1 := ⟨d - 1, by omega⟩
  have hd : 4 ≤ d := by omega
  unfold F_X12_years at H
  by_cases ck : kO h a0 = some 12
  · rw [if_pos ck] at H
    show Ev xs N (d + 1) 277 0 [.ref a0, .int a1, .int a2, ci_junk, ci_junk, ci_junk, ci_junk, ci_junk] [] h nx _
    refine ev_go hc_X12_years (k := 2) (pc' := 2) (L' := [.ref a0, .int a1, .int a2, ci_junk, ci_junk, ci_junk, ci_junk, ci_junk]) (S' := [.int 0, .ref a0]) rfl ?_
    obtain ⟨h1, eh1, H⟩ := Option.bind_eq_some_iff.mp H
    refine ev_5 hc_X12_years (fe_X12_years (pc := 2) rfl) (pF_pf eh1) ?_
    refine ev_go hc_X12_years (k := 1) (pc' := 6) (L' := [.ref a0, .int a1, .int a2, ci_junk, ci_junk, ci_junk, ci_junk, ci_junk]) (S' := [.ref a0]) rfl ?_
    obtain ⟨v2, ev2, H⟩ := Option.bind_eq_some_iff.mp H
    refine ev_4 hc_X12_years (fe_X12_years (pc := 6) rfl) (gI_gf ev2) ?_
    by_cases c3 : v2 = 0
    · rw [if_pos c3] at H
      refine ev_bt hc_X12_years (fe_X12_years (pc := 9) rfl) rfl c3 ?_
      refine ev_go hc_X12_years (k := 1) (pc' := 14) (L' := [.ref a0, .int a1, .int a2, ci_junk, ci_junk, ci_junk, ci_junk, ci_junk]) (S' := [.int ((-2))]) rfl ?_
      obtain rfl := Option.some.inj H
      exact ev_8 hc_X12_years (fe_X12_years (pc := 14) rfl) rfl
    · rw [if_neg c3] at H
      refine ev_bf hc_X12_years (fe_X12_years (pc := 9) rfl) rfl c3 ?_
      refine ev_go hc_X12_years (k := 3) (pc' := 19) (L' := [.ref a0, .int a1, .int a2, ci_junk, ci_junk, ci_junk, ci_junk, ci_junk]) (S' := [.int 60, .int 1, .int a2]) rfl ?_
      obtain ⟨q4, eq4, H⟩ := Option.bind_eq_some_iff.mp H
      refine ev_call (vs := [.int a2, .int 1, .int 60]) (rest := []) (q := q_X12_in) hc_X12_years (Or.inl rfl) (fe_X12_years (pc := 19) rfl) ms_170 rfl rfl (Nat.le_of_ble_eq_true rfl) rfl (E_X12_in eq4 (by omega)) rfl ?_
      show Ev xs N (d + 1) 277 22 [.ref a0, .int a1, .int a2, ci_junk, ci_junk, ci_junk, ci_junk, ci_junk] [.int q4.1] q4.2 nx _
      by_cases c5 : q4.1 = 0
      · rw [if_pos c5] at H
        refine ev_bt hc_X12_years (fe_X12_years (pc := 22) rfl) rfl c5 ?_
        refine ev_go hc_X12_years (k := 1) (pc' := 26) (L' := [.ref a0, .int a1, .int a2, ci_junk, ci_junk, ci_junk, ci_junk, ci_junk]) (S' := [.int ((-1))]) rfl ?_
        obtain rfl := Option.some.inj H
        exact ev_8 hc_X12_years (fe_X12_years (pc := 26) rfl) rfl
      · rw [if_neg c5] at H
        refine ev_bf hc_X12_years (fe_X12_years (pc := 22) rfl) rfl c5 ?_
        refine ev_go hc_X12_years (k := 2) (pc' := 29) (L' := [.ref a0, .int a1, .int a2, ci_junk, ci_junk, ci_junk, ci_junk, ci_junk]) (S' := [.int a1, .ref a0]) rfl ?_
        obtain ⟨h6, eh6, H⟩ := Option.bind_eq_some_iff.mp H
        refine ev_5 hc_X12_years (fe_X12_years (pc := 29) rfl) (pF_pf eh6) ?_
        refine ev_go hc_X12_years (k := 5) (pc' := 38) (L' := [.ref a0, .int a1, .int a2, .int 0, .int 0, ci_junk, ci_junk, ci_junk]) (S' := [.ref a0]) rfl ?_
        obtain ⟨v7, ev7, H⟩ := Option.bind_eq_some_iff.mp H
        refine ev_4 hc_X12_years (fe_X12_years (pc := 38) rfl) (gR_gf ev7) ?_
        refine ev_go hc_X12_years (k := 1) (pc' := 42) (L' := [.ref a0, .int a1, .int a2, .int 0, .int 0, ci_junk, ci_junk, ci_junk]) (S' := [.ref a0, .ref v7]) rfl ?_
        obtain ⟨v8, ev8, H⟩ := Option.bind_eq_some_iff.mp H
        refine ev_4 hc_X12_years (fe_X12_years (pc := 42) rfl) (gR_gf ev8) ?_
        refine ev_go hc_X12_years (k := 1) (pc' := 46) (L' := [.ref a0, .int a1, .int a2, .int 0, .int 0, ci_junk, ci_junk, ci_junk]) (S' := [.int 0, .ref v8, .ref v7]) rfl ?_
        obtain ⟨h9, eh9, H⟩ := Option.bind_eq_some_iff.mp H
        refine ev_call (vs := [.ref v7, .ref v8, .int 0]) (rest := []) (q := q_X12_lay) hc_X12_years (Or.inl rfl) (fe_X12_years (pc := 46) rfl) ms_216 rfl rfl (Nat.le_of_ble_eq_true rfl) rfl (E_X12_lay eh9 (by omega)) rfl ?_
        show Ev xs N (d + 1) 277 49 [.ref a0, .int a1, .int a2, .int 0, .int 0, ci_junk, ci_junk, ci_junk] [] h9 nx _
        refine ev_go hc_X12_years (k := 2) (pc' := 52) (L' := [.ref a0, .int a1, .int a2, .int 0, .int 0, .int 0, ci_junk, ci_junk]) (S' := []) rfl ?_
        exact Ev.weak (ci_le_c (Or.inr rfl) (ci_le_c (Or.inl rfl) (ci_le_c (Or.inr rfl) (ci_le_c (Or.inr rfl) (ci_le_c (Or.inr rfl) (ci_le_c (Or.inr rfl) (ci_le_c (Or.inl rfl) (ci_le_c (Or.inl rfl) (ci_le_n))))))))) (eb_X12_years_52 hd bigN _ _ _ _ _ H)
  · rw [if_neg ck] at H; cases H
theorem hc_X12_keep : ci_code (ci_Ms 278) = k_X12_keep := rfl
theorem fe_X12_keep {pc : Nat} {w : Option ci_I} (h : (k_X12_keep)[pc]? = some w) : (k_X12_keep)[pc]? = some w := h
def F_X12_keep (a0 : Nat) (a1 : Int32) (h : ci_H) : Option (Int32 × ci_H) := if kO h a0 = some 12 then ((pF h a0 12 11 (.int 0)).bind fun h1 => (F_X12_in a1 0 1 h1).bind fun q2 => if q2.1 = 0 then (some (0, q2.2)) else ((gR q2.2 a0 12 41).bind fun v4 => (wB q2.2 v4 a1 1).bind fun h5 => (gR h5 a0 12 42).bind fun v6 => (gI h5 a0 12 39).bind fun v7 => (wI h5 v6 a1 v7).bind fun h8 => (gR h8 a0 12 0).bind fun v9 => (gR h8 a0 12 40).bind fun v10 => (F_X12_lay v9 v10 (42 * a1) h8).bind fun h11 => some (1, h11))) else none
theorem K_X12_keep {a0 : Nat} {a1 : Int32} {h : ci_H} {r : Int32 × ci_H} (H : F_X12_keep a0 a1 h = some r) : kO h a0 = some 12 := by
  unfold F_X12_keep at H
  by_cases c : kO h a0 = some 12
  · exact c
  · rw [if_neg c] at H; cases H
set_option maxHeartbeats 4000000 in
set_option maxRecDepth 20000 in
theorem E_X12_keep {xs : Nat → Int32} {N d : Nat} {nx : ci_N} {a0 : Nat} {a1 : Int32} {h : ci_H} {r : Int32 × ci_H} (H : F_X12_keep a0 a1 h = some r) (hd : 1 ≤ d) : Ev xs N d 278 0 (ci_entry [.ref a0, .int a1] 2) [] h nx (oI r nx) := by
  obtain ⟨d, rfl⟩ : ∃ d2, d = d2 + 1 := ⟨d - 1, by omega⟩
  have hd : 0 ≤ d := by omega
  unfold F_X12_keep at H
  by_cases ck : kO h a0 = some 12
  · rw [if_pos ck] at H
    show Ev xs N (d + 1) 278 0 [.ref a0, .int a1] [] h nx _
    refine ev_go hc_X12_keep (k := 2) (pc' := 2) (L' := [.ref a0, .int a1]) (S' := [.int 0, .ref a0]) rfl ?_
    obtain ⟨h1, eh1, H⟩ := Option.bind_eq_some_iff.mp H
    refine ev_5 hc_X12_keep (fe_X12_keep (pc := 2) rfl) (pF_pf eh1) ?_
    refine ev_go hc_X12_keep (k := 3) (pc' := 8) (L' := [.ref a0, .int a1]) (S' := [.int 1, .int 0, .int a1]) rfl ?_
    obtain ⟨q2, eq2, H⟩ := Option.bind_eq_some_iff.mp H
    refine ev_call (vs := [.int a1, .int 0, .int 1]) (rest := []) (q := q_X12_in) hc_X12_keep (Or.inl rfl) (fe_X12_keep (pc := 8) rfl) ms_170 rfl rfl (Nat.le_of_ble_eq_true rfl) rfl (E_X12_in eq2 (by omega)) rfl ?_
    show Ev xs N (d + 1) 278 11 [.ref a0, .int a1] [.int q2.1] q2.2 nx _
    by_cases c3 : q2.1 = 0
    · rw [if_pos c3] at H
      refine ev_bt hc_X12_keep (fe_X12_keep (pc := 11) rfl) rfl c3 ?_
      refine ev_go hc_X12_keep (k := 1) (pc' := 15) (L' := [.ref a0, .int a1]) (S' := [.int 0]) rfl ?_
      obtain rfl := Option.some.inj H
      exact ev_8z hc_X12_keep (fe_X12_keep (pc := 15) rfl) rfl (Or.inl rfl)
    · rw [if_neg c3] at H
      refine ev_bf hc_X12_keep (fe_X12_keep (pc := 11) rfl) rfl c3 ?_
      refine ev_go hc_X12_keep (k := 1) (pc' := 17) (L' := [.ref a0, .int a1]) (S' := [.ref a0]) rfl ?_
      obtain ⟨v4, ev4, H⟩ := Option.bind_eq_some_iff.mp H
      refine ev_4 hc_X12_keep (fe_X12_keep (pc := 17) rfl) (gR_gf ev4) ?_
      refine ev_go hc_X12_keep (k := 2) (pc' := 22) (L' := [.ref a0, .int a1]) (S' := [.int 1, .int a1, .ref v4]) rfl ?_
      obtain ⟨h5, eh5, H⟩ := Option.bind_eq_some_iff.mp H
      refine ev_5 hc_X12_keep (fe_X12_keep (pc := 22) rfl) (wB_as eh5) ?_
      refine ev_go hc_X12_keep (k := 1) (pc' := 24) (L' := [.ref a0, .int a1]) (S' := [.ref a0]) rfl ?_
      obtain ⟨v6, ev6, H⟩ := Option.bind_eq_some_iff.mp H
      refine ev_4 hc_X12_keep (fe_X12_keep (pc := 24) rfl) (gR_gf ev6) ?_
      refine ev_go hc_X12_keep (k := 2) (pc' := 29) (L' := [.ref a0, .int a1]) (S' := [.ref a0, .int a1, .ref v6]) rfl ?_
      obtain ⟨v7, ev7, H⟩ := Option.bind_eq_some_iff.mp H
      refine ev_4 hc_X12_keep (fe_X12_keep (pc := 29) rfl) (gI_gf ev7) ?_
      obtain ⟨h8, eh8, H⟩ := Option.bind_eq_some_iff.mp H
      refine ev_5 hc_X12_keep (fe_X12_keep (pc := 32) rfl) (wI_as eh8) ?_
      refine ev_go hc_X12_keep (k := 1) (pc' := 34) (L' := [.ref a0, .int a1]) (S' := [.ref a0]) rfl ?_
      obtain ⟨v9, ev9, H⟩ := Option.bind_eq_some_iff.mp H
      refine ev_4 hc_X12_keep (fe_X12_keep (pc := 34) rfl) (gR_gf ev9) ?_
      refine ev_go hc_X12_keep (k := 1) (pc' := 38) (L' := [.ref a0, .int a1]) (S' := [.ref a0, .ref v9]) rfl ?_
      obtain ⟨v10, ev10, H⟩ := Option.bind_eq_some_iff.mp H
      refine ev_4 hc_X12_keep (fe_X12_keep (pc := 38) rfl) (gR_gf ev10) ?_
      refine ev_go hc_X12_keep (k := 3) (pc' := 45) (L' := [.ref a0, .int a1]) (S' := [.int (42 * a1), .ref v10, .ref v9]) rfl ?_
      obtain ⟨h11, eh11, H⟩ := Option.bind_eq_some_iff.mp H
      refine ev_call (vs := [.ref v9, .ref v10, .int (42 * a1)]) (rest := []) (q := q_X12_lay) hc_X12_keep (Or.inl rfl) (fe_X12_keep (pc := 45) rfl) ms_216 rfl rfl (Nat.le_of_ble_eq_true rfl) rfl (E_X12_lay eh11 (by omega)) rfl ?_
      show Ev xs N (d + 1) 278 48 [.ref a0, .int a1] [] h11 nx _
      refine ev_go hc_X12_keep (k := 1) (pc' := 49) (L' := [.ref a0, .int a1]) (S' := [.int 1]) rfl ?_
      obtain rfl := Option.some.inj H
      exact ev_8z hc_X12_keep (fe_X12_keep (pc := 49) rfl) rfl (Or.inr rfl)
  · rw [if_neg ck] at H; cases H
theorem hc_X12_again : ci_code (ci_Ms 279) = k_X12_again := rfl
theorem fe_X12_again {pc : Nat} {w : Option ci_I} (h : (k_X12_again)[pc]? = some w) : (k_X12_again)[pc]? = some w := h
def b_X12_again_40 (l0 : Nat) (l1 : Int32) : Nat → Int32 → ci_H → Option (Int32 × ci_H)
  | 0, _, _ => none
  | n + 1, l2, h => if 42 ≤ l2 then ((pF h l0 12 23 (.int 0)).bind fun h2 => some (1, h2)) else ((gR h l0 12 0).bind fun v3 => (gR h l0 12 40).bind fun v4 => (rI h v4 ((42 * l1) + l2)).bind fun v5 => (wI h v3 l2 v5).bind fun h6 => b_X12_again_40 l0 l1 n (l2 + 1) h6)
set_option maxHeartbeats 4000000 in
set_option maxRecDepth 20000 in
theorem eb_X12_again_40 {xs : Nat → Int32} {N d : Nat} {nx : ci_N} {l0 : Nat} {l1 : Int32} (hd : 0 ≤ d) : ∀ (n : Nat) (l2 : Int32) (h : ci_H) (r : Int32 × ci_H), b_X12_again_40 l0 l1 n l2 h = some r → Ev xs N (d + 1) 279 40 [.ref l0, .int l1, .int l2] [] h nx (oI r nx) := by
  intro n
  induction n with
  | zero => intro l2 h r H; unfold b_X12_again_40 at H; cases H
  | succ n ih =>
    intro l2 h r H
    unfold b_X12_again_40 at H
    refine ev_go hc_X12_again (k := 2) (pc' := 43) (L' := [.ref l0, .int l1, .int l2]) (S' := [.int 42, .int l2]) rfl ?_
    by_cases c1 : 42 ≤ l2
    · rw [if_pos c1] at H
      refine ev_bt hc_X12_again (fe_X12_again (pc := 43) rfl) rfl c1 ?_
      refine ev_go hc_X12_again (k := 2) (pc' := 71) (L' := [.ref l0, .int l1, .int l2]) (S' := [.int 0, .ref l0]) rfl ?_
      obtain ⟨h2, eh2, H⟩ := Option.bind_eq_some_iff.mp H
      refine ev_5 hc_X12_again (fe_X12_again (pc := 71) rfl) (pF_pf eh2) ?_
      refine ev_go hc_X12_again (k := 1) (pc' := 75) (L' := [.ref l0, .int l1, .int l2]) (S' := [.int 1]) rfl ?_
      obtain rfl := Option.some.inj H
      exact ev_8z hc_X12_again (fe_X12_again (pc := 75) rfl) rfl (Or.inr rfl)
    · rw [if_neg c1] at H
      refine ev_bf hc_X12_again (fe_X12_again (pc := 43) rfl) rfl c1 ?_
      refine ev_go hc_X12_again (k := 1) (pc' := 47) (L' := [.ref l0, .int l1, .int l2]) (S' := [.ref l0]) rfl ?_
      obtain ⟨v3, ev3, H⟩ := Option.bind_eq_some_iff.mp H
      refine ev_4 hc_X12_again (fe_X12_again (pc := 47) rfl) (gR_gf ev3) ?_
      refine ev_go hc_X12_again (k := 2) (pc' := 52) (L' := [.ref l0, .int l1, .int l2]) (S' := [.ref l0, .int l2, .ref v3]) rfl ?_
      obtain ⟨v4, ev4, H⟩ := Option.bind_eq_some_iff.mp H
      refine ev_4 hc_X12_again (fe_X12_again (pc := 52) rfl) (gR_gf ev4) ?_
      refine ev_go hc_X12_again (k := 5) (pc' := 61) (L' := [.ref l0, .int l1, .int l2]) (S' := [.int ((42 * l1) + l2), .ref v4, .int l2, .ref v3]) rfl ?_
      obtain ⟨v5, ev5, H⟩ := Option.bind_eq_some_iff.mp H
      refine ev_4 hc_X12_again (fe_X12_again (pc := 61) rfl) (rI_al ev5) ?_
      obtain ⟨h6, eh6, H⟩ := Option.bind_eq_some_iff.mp H
      refine ev_5 hc_X12_again (fe_X12_again (pc := 62) rfl) (wI_as eh6) ?_
      refine ev_go hc_X12_again (k := 2) (pc' := 40) (L' := [.ref l0, .int l1, .int (l2 + 1)]) (S' := []) rfl ?_
      exact Ev.weak (ci_le_c (Or.inr rfl) (ci_le_c (Or.inr rfl) (ci_le_c (Or.inr rfl) (ci_le_n)))) (ih _ _ _ H)
def F_X12_again (a0 : Nat) (a1 : Int32) (h : ci_H) : Option (Int32 × ci_H) := if kO h a0 = some 12 then ((pF h a0 12 11 (.int 0)).bind fun h1 => (F_X12_in a1 0 1 h1).bind fun q2 => if q2.1 = 0 then (some (0, q2.2)) else ((gR q2.2 a0 12 41).bind fun v4 => (rB q2.2 v4 a1).bind fun v5 => if v5 = 0 then (some (0, q2.2)) else ((gR q2.2 a0 12 42).bind fun v7 => (rI q2.2 v7 a1).bind fun v8 => (gI q2.2 a0 12 39).bind fun v9 => if v8 = v9 then (b_X12_again_40 a0 a1 bigN 0 q2.2) else (some (0, q2.2))))) else none
theorem K_X12_again {a0 : Nat} {a1 : Int32} {h : ci_H} {r : Int32 × ci_H} (H : F_X12_again a0 a1 h = some r) : kO h a0 = some 12 := by
  unfold F_X12_again at H
  by_cases c : kO h a0 = some 12
  · exact c
  · rw [if_neg c] at H; cases H
set_option maxHeartbeats 4000000 in
set_option maxRecDepth 20000 in
theorem E_X12_again {xs : Nat → Int32} {N d : Nat} {nx : ci_N} {a0 : Nat} {a1 : Int32} {h : ci_H} {r : Int32 × ci_H} (H : F_X12_again a0 a1 h = some r) (hd : 1 ≤ d) : Ev xs N d 279 0 (ci_entry [.ref a0, .int a1] 3) [] h nx (oI r nx) := by
  obtain ⟨d, rfl⟩ : ∃ d2, d = d2 + 1 := ⟨d - 1, by omega⟩
  have hd : 0 ≤ d := by omega
  unfold F_X12_again at H
  by_cases ck : kO h a0 = some 12
  · rw [if_pos ck] at H
    show Ev xs N (d + 1) 279 0 [.ref a0, .int a1, ci_junk] [] h nx _
    refine ev_go hc_X12_again (k := 2) (pc' := 2) (L' := [.ref a0, .int a1, ci_junk]) (S' := [.int 0, .ref a0]) rfl ?_
    obtain ⟨h1, eh1, H⟩ := Option.bind_eq_some_iff.mp H
    refine ev_5 hc_X12_again (fe_X12_again (pc := 2) rfl) (pF_pf eh1) ?_
    refine ev_go hc_X12_again (k := 3) (pc' := 8) (L' := [.ref a0, .int a1, ci_junk]) (S' := [.int 1, .int 0, .int a1]) rfl ?_
    obtain ⟨q2, eq2, H⟩ := Option.bind_eq_some_iff.mp H
    refine ev_call (vs := [.int a1, .int 0, .int 1]) (rest := []) (q := q_X12_in) hc_X12_again (Or.inl rfl) (fe_X12_again (pc := 8) rfl) ms_170 rfl rfl (Nat.le_of_ble_eq_true rfl) rfl (E_X12_in eq2 (by omega)) rfl ?_
    show Ev xs N (d + 1) 279 11 [.ref a0, .int a1, ci_junk] [.int q2.1] q2.2 nx _
    by_cases c3 : q2.1 = 0
    · rw [if_pos c3] at H
      refine ev_bt hc_X12_again (fe_X12_again (pc := 11) rfl) rfl c3 ?_
      refine ev_go hc_X12_again (k := 1) (pc' := 37) (L' := [.ref a0, .int a1, ci_junk]) (S' := [.int 0]) rfl ?_
      obtain rfl := Option.some.inj H
      exact ev_8z hc_X12_again (fe_X12_again (pc := 37) rfl) rfl (Or.inl rfl)
    · rw [if_neg c3] at H
      refine ev_bf hc_X12_again (fe_X12_again (pc := 11) rfl) rfl c3 ?_
      refine ev_go hc_X12_again (k := 1) (pc' := 15) (L' := [.ref a0, .int a1, ci_junk]) (S' := [.ref a0]) rfl ?_
      obtain ⟨v4, ev4, H⟩ := Option.bind_eq_some_iff.mp H
      refine ev_4 hc_X12_again (fe_X12_again (pc := 15) rfl) (gR_gf ev4) ?_
      refine ev_go hc_X12_again (k := 1) (pc' := 19) (L' := [.ref a0, .int a1, ci_junk]) (S' := [.int a1, .ref v4]) rfl ?_
      obtain ⟨v5, ev5, H⟩ := Option.bind_eq_some_iff.mp H
      refine ev_4 hc_X12_again (fe_X12_again (pc := 19) rfl) (rB_al ev5) ?_
      by_cases c6 : v5 = 0
      · rw [if_pos c6] at H
        refine ev_bt hc_X12_again (fe_X12_again (pc := 20) rfl) rfl c6 ?_
        refine ev_go hc_X12_again (k := 1) (pc' := 37) (L' := [.ref a0, .int a1, ci_junk]) (S' := [.int 0]) rfl ?_
        obtain rfl := Option.some.inj H
        exact ev_8z hc_X12_again (fe_X12_again (pc := 37) rfl) rfl (Or.inl rfl)
      · rw [if_neg c6] at H
        refine ev_bf hc_X12_again (fe_X12_again (pc := 20) rfl) rfl c6 ?_
        refine ev_go hc_X12_again (k := 1) (pc' := 24) (L' := [.ref a0, .int a1, ci_junk]) (S' := [.ref a0]) rfl ?_
        obtain ⟨v7, ev7, H⟩ := Option.bind_eq_some_iff.mp H
        refine ev_4 hc_X12_again (fe_X12_again (pc := 24) rfl) (gR_gf ev7) ?_
        refine ev_go hc_X12_again (k := 1) (pc' := 28) (L' := [.ref a0, .int a1, ci_junk]) (S' := [.int a1, .ref v7]) rfl ?_
        obtain ⟨v8, ev8, H⟩ := Option.bind_eq_some_iff.mp H
        refine ev_4 hc_X12_again (fe_X12_again (pc := 28) rfl) (rI_al ev8) ?_
        refine ev_go hc_X12_again (k := 1) (pc' := 30) (L' := [.ref a0, .int a1, ci_junk]) (S' := [.ref a0, .int v8]) rfl ?_
        obtain ⟨v9, ev9, H⟩ := Option.bind_eq_some_iff.mp H
        refine ev_4 hc_X12_again (fe_X12_again (pc := 30) rfl) (gI_gf ev9) ?_
        by_cases c10 : v8 = v9
        · rw [if_pos c10] at H
          refine ev_bt hc_X12_again (fe_X12_again (pc := 33) rfl) rfl c10 ?_
          refine ev_go hc_X12_again (k := 2) (pc' := 40) (L' := [.ref a0, .int a1, .int 0]) (S' := []) rfl ?_
          exact Ev.weak (ci_le_c (Or.inr rfl) (ci_le_c (Or.inr rfl) (ci_le_c (Or.inr rfl) (ci_le_n)))) (eb_X12_again_40 hd bigN _ _ _ H)
        · rw [if_neg c10] at H
          refine ev_bf hc_X12_again (fe_X12_again (pc := 33) rfl) rfl c10 ?_
          refine ev_go hc_X12_again (k := 1) (pc' := 37) (L' := [.ref a0, .int a1, ci_junk]) (S' := [.int 0]) rfl ?_
          obtain rfl := Option.some.inj H
          exact ev_8z hc_X12_again (fe_X12_again (pc := 37) rfl) rfl (Or.inl rfl)
  · rw [if_neg ck] at H; cases H
