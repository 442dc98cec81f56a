theorem hc_X12_manyOf : ci_code (ci_Ms 204) = k_X12_manyOf := rfl
theorem fe_X12_manyOf {pc : Nat} {w : Option ci_I} (h : (k_X12_manyOf)[pc]? = some w) : (k_X12_manyOf)[pc]? = some w := h
def b_X12_manyOf_54 (r_6 : Int32 → Int32 → ci_H → Option (Int32 × ci_H)) (l0 : Nat) (l1 : Nat) (l2 : Int32) (l3 : Int32) (l5 : Int32) (s0 : Int32) (s1 : Int32)  (h : ci_H) : Option (Int32 × ci_H) := r_6 (s0 + s1) (l5 + 1) h
set_option maxHeartbeats 4000000 in
set_option maxRecDepth 20000 in
theorem eb_X12_manyOf_54 {xs : Nat → Int32} {N d : Nat} {nx : ci_N} {r_6 : Int32 → Int32 → ci_H → Option (Int32 × ci_H)} {l0 : Nat} {l1 : Nat} {l2 : Int32} {l3 : Int32} {l5 : Int32} {s0 : Int32} {s1 : Int32} (hd : 0 ≤ d) (h_6 : ∀ (l4 : Int32) (l5 : Int32) (h : ci_H) (r : Int32 × ci_H), r_6 l4 l5 h = some r → Ev xs N (d + 1) 204 6 [.ref l0, .ref l1, .int l2, .int l3, .int l4, .int l5] [] h nx (oI r nx)) {h : ci_H} {r : Int32 × ci_H} (H : b_X12_manyOf_54 r_6 l0 l1 l2 l3 l5 s0 s1 h = some r) : Ev xs N (d + 1) 204 54 [.ref l0, .ref l1, .int l2, .int l3, ci_junk, .int l5] [.int s1, .int s0] h nx (oI r nx) := by
  unfold b_X12_manyOf_54 at H
  refine ev_go hc_X12_manyOf (k := 4) (pc' := 6) (L' := [.ref l0, .ref l1, .int l2, .int l3, .int (s0 + s1), .int (l5 + 1)]) (S' := []) rfl ?_
  exact Ev.weak (ci_le_c (Or.inr rfl) (ci_le_c (Or.inr rfl) (ci_le_c (Or.inr rfl) (ci_le_c (Or.inr rfl) (ci_le_c (Or.inr rfl) (ci_le_c (Or.inr rfl) (ci_le_n))))))) (h_6 _ _ _ _ H)
def b_X12_manyOf_53 (r_6 : Int32 → Int32 → ci_H → Option (Int32 × ci_H)) (l0 : Nat) (l1 : Nat) (l2 : Int32) (l3 : Int32) (l5 : Int32) (s0 : Int32)  (h : ci_H) : Option (Int32 × ci_H) := b_X12_manyOf_54 r_6 l0 l1 l2 l3 l5 s0 0 h
set_option maxHeartbeats 4000000 in
set_option maxRecDepth 20000 in
theorem eb_X12_manyOf_53 {xs : Nat → Int32} {N d : Nat} {nx : ci_N} {r_6 : Int32 → Int32 → ci_H → Option (Int32 × ci_H)} {l0 : Nat} {l1 : Nat} {l2 : Int32} {l3 : Int32} {l5 : Int32} {s0 : Int32} (hd : 0 ≤ d) (h_6 : ∀ (l4 : Int32) (l5 : Int32) (h : ci_H) (r : Int32 × ci_H), r_6 l4 l5 h = some r → Ev xs N (d + 1) 204 6 [.ref l0, .ref l1, .int l2, .int l3, .int l4, .int l5] [] h nx (oI r nx)) {h : ci_H} {r : Int32 × ci_H} (H : b_X12_manyOf_53 r_6 l0 l1 l2 l3 l5 s0 h = some r) : Ev xs N (d + 1) 204 53 [.ref l0, .ref l1, .int l2, .int l3, ci_junk, .int l5] [.int s0] h nx (oI r nx) := by
  unfold b_X12_manyOf_53 at H
  refine ev_go hc_X12_manyOf (k := 1) (pc' := 54) (L' := [.ref l0, .ref l1, .int l2, .int l3, ci_junk, .int l5]) (S' := [.int 0, .int s0]) rfl ?_
  exact Ev.weak (ci_le_c (Or.inr rfl) (ci_le_c (Or.inr rfl) (ci_le_c (Or.inr rfl) (ci_le_c (Or.inr rfl) (ci_le_c (Or.inl rfl) (ci_le_c (Or.inr rfl) (ci_le_n))))))) (eb_X12_manyOf_54 hd h_6 H)
def b_X12_manyOf_6 (l0 : Nat) (l1 : Nat) (l2 : Int32) (l3 : Int32) : Nat → Int32 → Int32 → ci_H → Option (Int32 × ci_H)
  | 0, _, _, _ => none
  | n + 1, l4, l5, h => (gI h l0 12 2).bind fun v1 => if v1 ≤ l5 then (some (l4, h)) else ((F_X12_has l2 l5 h).bind fun q3 => if q3.1 = 0 then (b_X12_manyOf_53 (fun x0 x1 x2 => b_X12_manyOf_6 l0 l1 l2 l3 n x0 x1 x2) l0 l1 l2 l3 l5 l4 q3.2) else ((rI q3.2 l1 l5).bind fun v5 => (gR q3.2 l0 12 4).bind fun v6 => (rI q3.2 v6 l3).bind fun v7 => (gR q3.2 l0 12 5).bind fun v8 => (rI q3.2 v8 l3).bind fun v9 => (F_X12_isOf l0 v5 v7 v9 q3.2).bind fun q10 => if q10.1 = 0 then (b_X12_manyOf_53 (fun x0 x1 x2 => b_X12_manyOf_6 l0 l1 l2 l3 n x0 x1 x2) l0 l1 l2 l3 l5 l4 q10.2) else (b_X12_manyOf_54 (fun x0 x1 x2 => b_X12_manyOf_6 l0 l1 l2 l3 n x0 x1 x2) l0 l1 l2 l3 l5 l4 1 q10.2)))
set_option maxHeartbeats 4000000 in
set_option maxRecDepth 20000 in
theorem eb_X12_manyOf_6 {xs : Nat → Int32} {N d : Nat} {nx : ci_N} {l0 : Nat} {l1 : Nat} {l2 : Int32} {l3 : Int32} (hd : 0 ≤ d) : ∀ (n : Nat) (l4 : Int32) (l5 : Int32) (h : ci_H) (r : Int32 × ci_H), b_X12_manyOf_6 l0 l1 l2 l3 n l4 l5 h = some r → Ev xs N (d + 1) 204 6 [.ref l0, .ref l1, .int l2, .int l3, .int l4, .int l5] [] h nx (oI r nx) := by
  intro n
  induction n with
  | zero => intro l4 l5 h r H; unfold b_X12_manyOf_6 at H; cases H
  | succ n ih =>
    intro l4 l5 h r H
    unfold b_X12_manyOf_6 at H
    refine ev_go hc_X12_manyOf (k := 2) (pc' := 9) (L' := [.ref l0, .ref l1, .int l2, .int l3, .int l4, .int l5]) (S' := [.ref l0, .int l5]) rfl ?_
    obtain ⟨v1, ev1, H⟩ := Option.bind_eq_some_iff.mp H
    refine ev_4 hc_X12_manyOf (fe_X12_manyOf (pc := 9) rfl) (gI_gf ev1) ?_
    by_cases c2 : v1 ≤ l5
    · rw [if_pos c2] at H
      refine ev_bt hc_X12_manyOf (fe_X12_manyOf (pc := 12) rfl) rfl c2 ?_
      refine ev_go hc_X12_manyOf (k := 1) (pc' := 65) (L' := [.ref l0, .ref l1, .int l2, .int l3, .int l4, .int l5]) (S' := [.int l4]) rfl ?_
      obtain rfl := Option.some.inj H
      exact ev_8 hc_X12_manyOf (fe_X12_manyOf (pc := 65) rfl) rfl
    · rw [if_neg c2] at H
      refine ev_bf hc_X12_manyOf (fe_X12_manyOf (pc := 12) rfl) rfl c2 ?_
      refine ev_go hc_X12_manyOf (k := 3) (pc' := 20) (L' := [.ref l0, .ref l1, .int l2, .int l3, .int l4, .int l5]) (S' := [.int l5, .int l2, .int l4]) rfl ?_
      obtain ⟨q3, eq3, H⟩ := Option.bind_eq_some_iff.mp H
      refine ev_call (vs := [.int l2, .int l5]) (rest := [.int l4]) (q := q_X12_has) hc_X12_manyOf (Or.inl rfl) (fe_X12_manyOf (pc := 20) rfl) ms_171 rfl rfl (Nat.le_of_ble_eq_true rfl) rfl (E_X12_has eq3 (by omega)) rfl ?_
      show Ev xs N (d + 1) 204 23 [.ref l0, .ref l1, .int l2, .int l3, .int l4, .int l5] [.int q3.1, .int l4] q3.2 nx _
      by_cases c4 : q3.1 = 0
      · rw [if_pos c4] at H
        refine ev_bt hc_X12_manyOf (fe_X12_manyOf (pc := 23) rfl) rfl c4 ?_
        exact Ev.weak (ci_le_c (Or.inr rfl) (ci_le_c (Or.inr rfl) (ci_le_c (Or.inr rfl) (ci_le_c (Or.inr rfl) (ci_le_c (Or.inl rfl) (ci_le_c (Or.inr rfl) (ci_le_n))))))) (eb_X12_manyOf_53 hd ih H)
      · rw [if_neg c4] at H
        refine ev_bf hc_X12_manyOf (fe_X12_manyOf (pc := 23) rfl) rfl c4 ?_
        refine ev_go hc_X12_manyOf (k := 3) (pc' := 30) (L' := [.ref l0, .ref l1, .int l2, .int l3, .int l4, .int l5]) (S' := [.int l5, .ref l1, .ref l0, .int l4]) rfl ?_
        obtain ⟨v5, ev5, H⟩ := Option.bind_eq_some_iff.mp H
        refine ev_4 hc_X12_manyOf (fe_X12_manyOf (pc := 30) rfl) (rI_al ev5) ?_
        refine ev_go hc_X12_manyOf (k := 1) (pc' := 32) (L' := [.ref l0, .ref l1, .int l2, .int l3, .int l4, .int l5]) (S' := [.ref l0, .int v5, .ref l0, .int l4]) rfl ?_
        obtain ⟨v6, ev6, H⟩ := Option.bind_eq_some_iff.mp H
        refine ev_4 hc_X12_manyOf (fe_X12_manyOf (pc := 32) rfl) (gR_gf ev6) ?_
        refine ev_go hc_X12_manyOf (k := 1) (pc' := 36) (L' := [.ref l0, .ref l1, .int l2, .int l3, .int l4, .int l5]) (S' := [.int l3, .ref v6, .int v5, .ref l0, .int l4]) rfl ?_
        obtain ⟨v7, ev7, H⟩ := Option.bind_eq_some_iff.mp H
        refine ev_4 hc_X12_manyOf (fe_X12_manyOf (pc := 36) rfl) (rI_al ev7) ?_
        refine ev_go hc_X12_manyOf (k := 1) (pc' := 38) (L' := [.ref l0, .ref l1, .int l2, .int l3, .int l4, .int l5]) (S' := [.ref l0, .int v7, .int v5, .ref l0, .int l4]) rfl ?_
        obtain ⟨v8, ev8, H⟩ := Option.bind_eq_some_iff.mp H
        refine ev_4 hc_X12_manyOf (fe_X12_manyOf (pc := 38) rfl) (gR_gf ev8) ?_
        refine ev_go hc_X12_manyOf (k := 1) (pc' := 42) (L' := [.ref l0, .ref l1, .int l2, .int l3, .int l4, .int l5]) (S' := [.int l3, .ref v8, .int v7, .int v5, .ref l0, .int l4]) rfl ?_
        obtain ⟨v9, ev9, H⟩ := Option.bind_eq_some_iff.mp H
        refine ev_4 hc_X12_manyOf (fe_X12_manyOf (pc := 42) rfl) (rI_al ev9) ?_
        obtain ⟨q10, eq10, H⟩ := Option.bind_eq_some_iff.mp H
        refine ev_call (vs := [.ref l0, .int v5, .int v7, .int v9]) (rest := [.int l4]) (q := q_X12_isOf) hc_X12_manyOf (Or.inr rfl) (fe_X12_manyOf (pc := 43) rfl) ms_200 rfl rfl (Nat.le_of_ble_eq_true rfl) (kO_recv (K_X12_isOf eq10)) (E_X12_isOf eq10 (by omega)) rfl ?_
        show Ev xs N (d + 1) 204 46 [.ref l0, .ref l1, .int l2, .int l3, .int l4, .int l5] [.int q10.1, .int l4] q10.2 nx _
        by_cases c11 : q10.1 = 0
        · rw [if_pos c11] at H
          refine ev_bt hc_X12_manyOf (fe_X12_manyOf (pc := 46) rfl) rfl c11 ?_
          exact Ev.weak (ci_le_c (Or.inr rfl) (ci_le_c (Or.inr rfl) (ci_le_c (Or.inr rfl) (ci_le_c (Or.inr rfl) (ci_le_c (Or.inl rfl) (ci_le_c (Or.inr rfl) (ci_le_n))))))) (eb_X12_manyOf_53 hd ih H)
        · rw [if_neg c11] at H
          refine ev_bf hc_X12_manyOf (fe_X12_manyOf (pc := 46) rfl) rfl c11 ?_
          refine ev_go hc_X12_manyOf (k := 2) (pc' := 54) (L' := [.ref l0, .ref l1, .int l2, .int l3, .int l4, .int l5]) (S' := [.int 1, .int l4]) rfl ?_
          exact Ev.weak (ci_le_c (Or.inr rfl) (ci_le_c (Or.inr rfl) (ci_le_c (Or.inr rfl) (ci_le_c (Or.inr rfl) (ci_le_c (Or.inl rfl) (ci_le_c (Or.inr rfl) (ci_le_n))))))) (eb_X12_manyOf_54 hd ih H)
def F_X12_manyOf (a0 : Nat) (a1 : Nat) (a2 : Int32) (a3 : Int32) (h : ci_H) : Option (Int32 × ci_H) := if kO h a0 = some 12 then (b_X12_manyOf_6 a0 a1 a2 a3 bigN 0 0 h) else none
theorem K_X12_manyOf {a0 : Nat} {a1 : Nat} {a2 : Int32} {a3 : Int32} {h : ci_H} {r : Int32 × ci_H} (H : F_X12_manyOf a0 a1 a2 a3 h = some r) : kO h a0 = some 12 := by
  unfold F_X12_manyOf at H
  by_cases c : kO h a0 = some 12
  · exact c
  · rw [if_neg c] at H; cases H
set_option maxHeartbeats 4000000 in
set_option maxRecDepth 20000 in
theorem E_X12_manyOf {xs : Nat → Int32} {N d : Nat} {nx : ci_N} {a0 : Nat} {a1 : Nat} {a2 : Int32} {a3 : Int32} {h : ci_H} {r : Int32 × ci_H} (H : F_X12_manyOf a0 a1 a2 a3 h = some r) (hd : 1 ≤ d) : Ev xs N d 204 0 (ci_entry [.ref a0, .ref a1, .int a2, .int a3] 6) [] h nx (oI r nx) := by
  obtain ⟨d, rfl⟩ : ∃ d2, d = d2 + 1 := ⟨d - 1, by omega⟩
  have hd : 0 ≤ d := by omega
  unfold F_X12_manyOf at H
  by_cases ck : kO h a0 = some 12
  · rw [if_pos ck] at H
    show Ev xs N (d + 1) 204 0 [.ref a0, .ref a1, .int a2, .int a3, ci_junk, ci_junk] [] h nx _
    refine ev_go hc_X12_manyOf (k := 4) (pc' := 6) (L' := [.ref a0, .ref a1, .int a2, .int a3, .int 0, .int 0]) (S' := []) rfl ?_
    exact Ev.weak (ci_le_c (Or.inr rfl) (ci_le_c (Or.inr rfl) (ci_le_c (Or.inr rfl) (ci_le_c (Or.inr rfl) (ci_le_c (Or.inr rfl) (ci_le_c (Or.inr rfl) (ci_le_n))))))) (eb_X12_manyOf_6 hd bigN _ _ _ _ H)
  · rw [if_neg ck] at H; cases H
theorem hc_X12_brokenBy : ci_code (ci_Ms 205) = k_X12_brokenBy := rfl
theorem fe_X12_brokenBy {pc : Nat} {w : Option ci_I} (h : (k_X12_brokenBy)[pc]? = some w) : (k_X12_brokenBy)[pc]? = some w := h
def b_X12_brokenBy_38 (r_5 : Int32 → Int32 → ci_H → Option (Int32 × ci_H)) (l0 : Nat) (l1 : Nat) (l2 : Int32) (l4 : Int32) (s0 : Int32) (s1 : Int32)  (h : ci_H) : Option (Int32 × ci_H) := r_5 (s0 ||| s1) (l4 + 1) h
set_option maxHeartbeats 4000000 in
set_option maxRecDepth 20000 in
theorem eb_X12_brokenBy_38 {xs : Nat → Int32} {N d : Nat} {nx : ci_N} {r_5 : Int32 → Int32 → ci_H → Option (Int32 × ci_H)} {l0 : Nat} {l1 : Nat} {l2 : Int32} {l4 : Int32} {s0 : Int32} {s1 : Int32} (hd : 1 ≤ d) (h_5 : ∀ (l3 : Int32) (l4 : Int32) (h : ci_H) (r : Int32 × ci_H), r_5 l3 l4 h = some r → Ev xs N (d + 1) 205 5 [.ref l0, .ref l1, .int l2, .int l3, .int l4] [] h nx (oI r nx)) {h : ci_H} {r : Int32 × ci_H} (H : b_X12_brokenBy_38 r_5 l0 l1 l2 l4 s0 s1 h = some r) : Ev xs N (d + 1) 205 38 [.ref l0, .ref l1, .int l2, ci_junk, .int l4] [.int s1, .int s0] h nx (oI r nx) := by
  unfold b_X12_brokenBy_38 at H
  refine ev_go hc_X12_brokenBy (k := 4) (pc' := 5) (L' := [.ref l0, .ref l1, .int l2, .int (s0 ||| s1), .int (l4 + 1)]) (S' := []) rfl ?_
  exact Ev.weak (ci_le_c (Or.inr rfl) (ci_le_c (Or.inr rfl) (ci_le_c (Or.inr rfl) (ci_le_c (Or.inr rfl) (ci_le_c (Or.inr rfl) (ci_le_n)))))) (h_5 _ _ _ _ H)
def b_X12_brokenBy_5 (l0 : Nat) (l1 : Nat) (l2 : Int32) : Nat → Int32 → Int32 → ci_H → Option (Int32 × ci_H)
  | 0, _, _, _ => none
  | n + 1, l3, l4, h => (gI h l0 12 3).bind fun v1 => if v1 ≤ l4 then (some (l3, h)) else ((F_X12_manyOf l0 l1 l2 l4 h).bind fun q3 => (gI q3.2 l0 12 6).bind fun v4 => if q3.1 ≤ v4 then (b_X12_brokenBy_38 (fun x0 x1 x2 => b_X12_brokenBy_5 l0 l1 l2 n x0 x1 x2) l0 l1 l2 l4 l3 0 q3.2) else (b_X12_brokenBy_38 (fun x0 x1 x2 => b_X12_brokenBy_5 l0 l1 l2 n x0 x1 x2) l0 l1 l2 l4 l3 ((1 : Int32) <<< (l4 &&& 31)) q3.2))
set_option maxHeartbeats 4000000 in
set_option maxRecDepth 20000 in
theorem eb_X12_brokenBy_5 {xs : Nat → Int32} {N d : Nat} {nx : ci_N} {l0 : Nat} {l1 : Nat} {l2 : Int32} (hd : 1 ≤ d) : ∀ (n : Nat) (l3 : Int32) (l4 : Int32) (h : ci_H) (r : Int32 × ci_H), b_X12_brokenBy_5 l0 l1 l2 n l3 l4 h = some r → Ev xs N (d + 1) 205 5 [.ref l0, .ref l1, .int l2, .int l3, .int l4] [] h nx (oI r nx) := by
  intro n
  induction n with
  | zero => intro l3 l4 h r H; unfold b_X12_brokenBy_5 at H; cases H
  | succ n ih =>
    intro l3 l4 h r H
    unfold b_X12_brokenBy_5 at H
    refine ev_go hc_X12_brokenBy (k := 2) (pc' := 8) (L' := [.ref l0, .ref l1, .int l2, .int l3, .int l4]) (S' := [.ref l0, .int l4]) rfl ?_
    obtain ⟨v1, ev1, H⟩ := Option.bind_eq_some_iff.mp H
    refine ev_4 hc_X12_brokenBy (fe_X12_brokenBy (pc := 8) rfl) (gI_gf ev1) ?_
    by_cases c2 : v1 ≤ l4
    · rw [if_pos c2] at H
      refine ev_bt hc_X12_brokenBy (fe_X12_brokenBy (pc := 11) rfl) rfl c2 ?_
      refine ev_go hc_X12_brokenBy (k := 1) (pc' := 47) (L' := [.ref l0, .ref l1, .int l2, .int l3, .int l4]) (S' := [.int l3]) rfl ?_
      obtain rfl := Option.some.inj H
      exact ev_8 hc_X12_brokenBy (fe_X12_brokenBy (pc := 47) rfl) rfl
    · rw [if_neg c2] at H
      refine ev_bf hc_X12_brokenBy (fe_X12_brokenBy (pc := 11) rfl) rfl c2 ?_
      refine ev_go hc_X12_brokenBy (k := 5) (pc' := 20) (L' := [.ref l0, .ref l1, .int l2, .int l3, .int l4]) (S' := [.int l4, .int l2, .ref l1, .ref l0, .int l3]) rfl ?_
      obtain ⟨q3, eq3, H⟩ := Option.bind_eq_some_iff.mp H
      refine ev_call (vs := [.ref l0, .ref l1, .int l2, .int l4]) (rest := [.int l3]) (q := q_X12_manyOf) hc_X12_brokenBy (Or.inr rfl) (fe_X12_brokenBy (pc := 20) rfl) ms_204 rfl rfl (Nat.le_of_ble_eq_true rfl) (kO_recv (K_X12_manyOf eq3)) (E_X12_manyOf eq3 (by omega)) rfl ?_
      show Ev xs N (d + 1) 205 23 [.ref l0, .ref l1, .int l2, .int l3, .int l4] [.int q3.1, .int l3] q3.2 nx _
      refine ev_go hc_X12_brokenBy (k := 1) (pc' := 24) (L' := [.ref l0, .ref l1, .int l2, .int l3, .int l4]) (S' := [.ref l0, .int q3.1, .int l3]) rfl ?_
      obtain ⟨v4, ev4, H⟩ := Option.bind_eq_some_iff.mp H
      refine ev_4 hc_X12_brokenBy (fe_X12_brokenBy (pc := 24) rfl) (gI_gf ev4) ?_
      by_cases c5 : q3.1 ≤ v4
      · rw [if_pos c5] at H
        refine ev_bt hc_X12_brokenBy (fe_X12_brokenBy (pc := 27) rfl) rfl c5 ?_
        refine ev_go hc_X12_brokenBy (k := 1) (pc' := 38) (L' := [.ref l0, .ref l1, .int l2, .int l3, .int l4]) (S' := [.int 0, .int l3]) rfl ?_
        exact Ev.weak (ci_le_c (Or.inr rfl) (ci_le_c (Or.inr rfl) (ci_le_c (Or.inr rfl) (ci_le_c (Or.inl rfl) (ci_le_c (Or.inr rfl) (ci_le_n)))))) (eb_X12_brokenBy_38 hd ih H)
      · rw [if_neg c5] at H
        refine ev_bf hc_X12_brokenBy (fe_X12_brokenBy (pc := 27) rfl) rfl c5 ?_
        refine ev_go hc_X12_brokenBy (k := 4) (pc' := 38) (L' := [.ref l0, .ref l1, .int l2, .int l3, .int l4]) (S' := [.int ((1 : Int32) <<< (l4 &&& 31)), .int l3]) rfl ?_
        exact Ev.weak (ci_le_c (Or.inr rfl) (ci_le_c (Or.inr rfl) (ci_le_c (Or.inr rfl) (ci_le_c (Or.inl rfl) (ci_le_c (Or.inr rfl) (ci_le_n)))))) (eb_X12_brokenBy_38 hd ih H)
def F_X12_brokenBy (a0 : Nat) (a1 : Nat) (a2 : Int32) (h : ci_H) : Option (Int32 × ci_H) := if kO h a0 = some 12 then (b_X12_brokenBy_5 a0 a1 a2 bigN 0 0 h) else none
theorem K_X12_brokenBy {a0 : Nat} {a1 : Nat} {a2 : Int32} {h : ci_H} {r : Int32 × ci_H} (H : F_X12_brokenBy a0 a1 a2 h = some r) : kO h a0 = some 12 := by
  unfold F_X12_brokenBy at H
  by_cases c : kO h a0 = some 12
  · exact c
  · rw [if_neg c] at H; cases H
set_option maxHeartbeats 4000000 in
set_option maxRecDepth 20000 in
theorem E_X12_brokenBy {xs : Nat → Int32} {N d : Nat} {nx : ci_N} {a0 : Nat} {a1 : Nat} {a2 : Int32} {h : ci_H} {r : Int32 × ci_H} (H : F_X12_brokenBy a0 a1 a2 h = some r) (hd : 2 ≤ d) : Ev xs N d 205 0 (ci_entry [.ref a0, .ref a1, .int a2] 5) [] h nx (oI r nx) := by
  obtain ⟨d, rfl⟩ : ∃ d2, d = d2 + 1 := ⟨d - 1, by omega⟩
  have hd : 1 ≤ d := by omega
  unfold F_X12_brokenBy at H
  by_cases ck : kO h a0 = some 12
  · rw [if_pos ck] at H
    show Ev xs N (d + 1) 205 0 [.ref a0, .ref a1, .int a2, ci_junk, ci_junk] [] h nx _
    refine ev_go hc_X12_brokenBy (k := 4) (pc' := 5) (L' := [.ref a0, .ref a1, .int a2, .int 0, .int 0]) (S' := []) rfl ?_
    exact Ev.weak (ci_le_c (Or.inr rfl) (ci_le_c (Or.inr rfl) (ci_le_c (Or.inr rfl) (ci_le_c (Or.inr rfl) (ci_le_c (Or.inr rfl) (ci_le_n)))))) (eb_X12_brokenBy_5 hd bigN _ _ _ _ H)
  · rw [if_neg ck] at H; cases H
theorem hc_X12_breaks : ci_code (ci_Ms 206) = k_X12_breaks := rfl
theorem fe_X12_breaks {pc : Nat} {w : Option ci_I} (h : (k_X12_breaks)[pc]? = some w) : (k_X12_breaks)[pc]? = some w := h
def F_X12_breaks (a0 : Nat) (a1 : Nat) (a2 : Int32) (h : ci_H) : Option (Int32 × ci_H) := if kO h a0 = some 12 then ((F_X12_keptBy a0 a1 a2 h).bind fun q1 => (F_X12_brokenBy a0 a1 q1.1 q1.2).bind fun q2 => some (q2.1, q2.2)) else none
theorem K_X12_breaks {a0 : Nat} {a1 : Nat} {a2 : Int32} {h : ci_H} {r : Int32 × ci_H} (H : F_X12_breaks a0 a1 a2 h = some r) : kO h a0 = some 12 := by
  unfold F_X12_breaks at H
  by_cases c : kO h a0 = some 12
  · exact c
  · rw [if_neg c] at H; cases H
set_option maxHeartbeats 4000000 in
set_option maxRecDepth 20000 in
theorem E_X12_breaks {xs : Nat → Int32} {N d : Nat} {nx : ci_N} {a0 : Nat} {a1 : Nat} {a2 : Int32} {h : ci_H} {r : Int32 × ci_H} (H : F_X12_breaks a0 a1 a2 h = some r) (hd : 3 ≤ d) : Ev xs N d 206 0 (ci_entry [.ref a0, .ref a1, .int a2] 3) [] h nx (oI r nx) := by
  obtain ⟨d, rfl⟩ : ∃ d2, d = d2 + 1 := ⟨d - 1, by omega⟩
  have hd : 2 ≤ d := by omega
  unfold F_X12_breaks at H
  by_cases ck : kO h a0 = some 12
  · rw [if_pos ck] at H
    show Ev xs N (d + 1) 206 0 [.ref a0, .ref a1, .int a2] [] h nx _
    refine ev_go hc_X12_breaks (k := 5) (pc' := 5) (L' := [.ref a0, .ref a1, .int a2]) (S' := [.int a2, .ref a1, .ref a0, .ref a1, .ref a0]) rfl ?_
    obtain ⟨q1, eq1, H⟩ := Option.bind_eq_some_iff.mp H
    refine ev_call (vs := [.ref a0, .ref a1, .int a2]) (rest := [.ref a1, .ref a0]) (q := q_X12_keptBy) hc_X12_breaks (Or.inr rfl) (fe_X12_breaks (pc := 5) rfl) ms_202 rfl rfl (Nat.le_of_ble_eq_true rfl) (kO_recv (K_X12_keptBy eq1)) (E_X12_keptBy eq1 (by omega)) rfl ?_
    show Ev xs N (d + 1) 206 8 [.ref a0, .ref a1, .int a2] [.int q1.1, .ref a1, .ref a0] q1.2 nx _
    obtain ⟨q2, eq2, H⟩ := Option.bind_eq_some_iff.mp H
    refine ev_call (vs := [.ref a0, .ref a1, .int q1.1]) (rest := []) (q := q_X12_brokenBy) hc_X12_breaks (Or.inr rfl) (fe_X12_breaks (pc := 8) rfl) ms_205 rfl rfl (Nat.le_of_ble_eq_true rfl) (kO_recv (K_X12_brokenBy eq2)) (E_X12_brokenBy eq2 (by omega)) rfl ?_
    show Ev xs N (d + 1) 206 11 [.ref a0, .ref a1, .int a2] [.int q2.1] q2.2 nx _
    obtain rfl := Option.some.inj H
    exact ev_8 hc_X12_breaks (fe_X12_breaks (pc := 11) rfl) rfl
  · rw [if_neg ck] at H; cases H
theorem hc_X12_brokenHouses : ci_code (ci_Ms 207) = k_X12_brokenHouses := rfl
theorem fe_X12_brokenHouses {pc : Nat} {w : Option ci_I} (h : (k_X12_brokenHouses)[pc]? = some w) : (k_X12_brokenHouses)[pc]? = some w := h
def b_X12_brokenHouses_29 (r_4 : Int32 → Int32 → ci_H → Option (Int32 × ci_H)) (l0 : Nat) (l1 : Nat) (l3 : Int32) (s0 : Int32) (s1 : Int32)  (h : ci_H) : Option (Int32 × ci_H) := r_4 (s0 ||| s1) (l3 + 1) h
set_option maxHeartbeats 4000000 in
set_option maxRecDepth 20000 in
theorem eb_X12_brokenHouses_29 {xs : Nat → Int32} {N d : Nat} {nx : ci_N} {r_4 : Int32 → Int32 → ci_H → Option (Int32 × ci_H)} {l0 : Nat} {l1 : Nat} {l3 : Int32} {s0 : Int32} {s1 : Int32} (hd : 3 ≤ d) (h_4 : ∀ (l2 : Int32) (l3 : Int32) (h : ci_H) (r : Int32 × ci_H), r_4 l2 l3 h = some r → Ev xs N (d + 1) 207 4 [.ref l0, .ref l1, .int l2, .int l3] [] h nx (oI r nx)) {h : ci_H} {r : Int32 × ci_H} (H : b_X12_brokenHouses_29 r_4 l0 l1 l3 s0 s1 h = some r) : Ev xs N (d + 1) 207 29 [.ref l0, .ref l1, ci_junk, .int l3] [.int s1, .int s0] h nx (oI r nx) := by
  unfold b_X12_brokenHouses_29 at H
  refine ev_go hc_X12_brokenHouses (k := 4) (pc' := 4) (L' := [.ref l0, .ref l1, .int (s0 ||| s1), .int (l3 + 1)]) (S' := []) rfl ?_
  exact Ev.weak (ci_le_c (Or.inr rfl) (ci_le_c (Or.inr rfl) (ci_le_c (Or.inr rfl) (ci_le_c (Or.inr rfl) (ci_le_n))))) (h_4 _ _ _ _ H)
def b_X12_brokenHouses_4 (l0 : Nat) (l1 : Nat) : Nat → Int32 → Int32 → ci_H → Option (Int32 × ci_H)
  | 0, _, _, _ => none
  | n + 1, l2, l3, h => (gI h l0 12 1).bind fun v1 => if v1 ≤ l3 then (some (l2, h)) else ((F_X12_breaks l0 l1 l3 h).bind fun q3 => if q3.1 = 0 then (b_X12_brokenHouses_29 (fun x0 x1 x2 => b_X12_brokenHouses_4 l0 l1 n x0 x1 x2) l0 l1 l3 l2 0 q3.2) else (b_X12_brokenHouses_29 (fun x0 x1 x2 => b_X12_brokenHouses_4 l0 l1 n x0 x1 x2) l0 l1 l3 l2 ((1 : Int32) <<< (l3 &&& 31)) q3.2))
set_option maxHeartbeats 4000000 in
set_option maxRecDepth 20000 in
theorem eb_X12_brokenHouses_4 {xs : Nat → Int32} {N d : Nat} {nx : ci_N} {l0 : Nat} {l1 : Nat} (hd : 3 ≤ d) : ∀ (n : Nat) (l2 : Int32) (l3 : Int32) (h : ci_H) (r : Int32 × ci_H), b_X12_brokenHouses_4 l0 l1 n l2 l3 h = some r → Ev xs N (d + 1) 207 4 [.ref l0, .ref l1, .int l2, .int l3] [] h nx (oI r nx) := by
  intro n
  induction n with
  | zero => intro l2 l3 h r H; unfold b_X12_brokenHouses_4 at H; cases H
  | succ n ih =>
    intro l2 l3 h r H
    unfold b_X12_brokenHouses_4 at H
    refine ev_go hc_X12_brokenHouses (k := 2) (pc' := 6) (L' := [.ref l0, .ref l1, .int l2, .int l3]) (S' := [.ref l0, .int l3]) rfl ?_
    obtain ⟨v1, ev1, H⟩ := Option.bind_eq_some_iff.mp H
    refine ev_4 hc_X12_brokenHouses (fe_X12_brokenHouses (pc := 6) rfl) (gI_gf ev1) ?_
    by_cases c2 : v1 ≤ l3
    · rw [if_pos c2] at H
      refine ev_bt hc_X12_brokenHouses (fe_X12_brokenHouses (pc := 9) rfl) rfl c2 ?_
      refine ev_go hc_X12_brokenHouses (k := 1) (pc' := 38) (L' := [.ref l0, .ref l1, .int l2, .int l3]) (S' := [.int l2]) rfl ?_
      obtain rfl := Option.some.inj H
      exact ev_8 hc_X12_brokenHouses (fe_X12_brokenHouses (pc := 38) rfl) rfl
    · rw [if_neg c2] at H
      refine ev_bf hc_X12_brokenHouses (fe_X12_brokenHouses (pc := 9) rfl) rfl c2 ?_
      refine ev_go hc_X12_brokenHouses (k := 4) (pc' := 16) (L' := [.ref l0, .ref l1, .int l2, .int l3]) (S' := [.int l3, .ref l1, .ref l0, .int l2]) rfl ?_
      obtain ⟨q3, eq3, H⟩ := Option.bind_eq_some_iff.mp H
      refine ev_call (vs := [.ref l0, .ref l1, .int l3]) (rest := [.int l2]) (q := q_X12_breaks) hc_X12_brokenHouses (Or.inr rfl) (fe_X12_brokenHouses (pc := 16) rfl) ms_206 rfl rfl (Nat.le_of_ble_eq_true rfl) (kO_recv (K_X12_breaks eq3)) (E_X12_breaks eq3 (by omega)) rfl ?_
      show Ev xs N (d + 1) 207 19 [.ref l0, .ref l1, .int l2, .int l3] [.int q3.1, .int l2] q3.2 nx _
      by_cases c4 : q3.1 = 0
      · rw [if_pos c4] at H
        refine ev_bt hc_X12_brokenHouses (fe_X12_brokenHouses (pc := 19) rfl) rfl c4 ?_
        refine ev_go hc_X12_brokenHouses (k := 1) (pc' := 29) (L' := [.ref l0, .ref l1, .int l2, .int l3]) (S' := [.int 0, .int l2]) rfl ?_
        exact Ev.weak (ci_le_c (Or.inr rfl) (ci_le_c (Or.inr rfl) (ci_le_c (Or.inl rfl) (ci_le_c (Or.inr rfl) (ci_le_n))))) (eb_X12_brokenHouses_29 hd ih H)
      · rw [if_neg c4] at H
        refine ev_bf hc_X12_brokenHouses (fe_X12_brokenHouses (pc := 19) rfl) rfl c4 ?_
        refine ev_go hc_X12_brokenHouses (k := 4) (pc' := 29) (L' := [.ref l0, .ref l1, .int l2, .int l3]) (S' := [.int ((1 : Int32) <<< (l3 &&& 31)), .int l2]) rfl ?_
        exact Ev.weak (ci_le_c (Or.inr rfl) (ci_le_c (Or.inr rfl) (ci_le_c (Or.inl rfl) (ci_le_c (Or.inr rfl) (ci_le_n))))) (eb_X12_brokenHouses_29 hd ih H)
def F_X12_brokenHouses (a0 : Nat) (a1 : Nat) (h : ci_H) : Option (Int32 × ci_H) := if kO h a0 = some 12 then (b_X12_brokenHouses_4 a0 a1 bigN 0 0 h) else none
theorem K_X12_brokenHouses {a0 : Nat} {a1 : Nat} {h : ci_H} {r : Int32 × ci_H} (H : F_X12_brokenHouses a0 a1 h = some r) : kO h a0 = some 12 := by
  unfold F_X12_brokenHouses at H
  by_cases c : kO h a0 = some 12
  · exact c
  · rw [if_neg c] at H; cases H
set_option maxHeartbeats 4000000 in
set_option maxRecDepth 20000 in
theorem E_X12_brokenHouses {xs : Nat → Int32} {N d : Nat} {nx : ci_N} {a0 : Nat} {a1 : Nat} {h : ci_H} {r : Int32 × ci_H} (H : F_X12_brokenHouses a0 a1 h = some r) (hd : 4 ≤ d) : Ev xs N d 207 0 (ci_entry [.ref a0, .ref a1] 4) [] h nx (oI r nx) := by
  obtain ⟨d, rfl⟩ : ∃ d2, d = d2 + 1 := ⟨d - 1, by omega⟩
  have hd : 3 ≤ d := by omega
  unfold F_X12_brokenHouses at H
  by_cases ck : kO h a0 = some 12
  · rw [if_pos ck] at H
    show Ev xs N (d + 1) 207 0 [.ref a0, .ref a1, ci_junk, ci_junk] [] h nx _
    refine ev_go hc_X12_brokenHouses (k := 4) (pc' := 4) (L' := [.ref a0, .ref a1, .int 0, .int 0]) (S' := []) rfl ?_
    exact Ev.weak (ci_le_c (Or.inr rfl) (ci_le_c (Or.inr rfl) (ci_le_c (Or.inr rfl) (ci_le_c (Or.inr rfl) (ci_le_n))))) (eb_X12_brokenHouses_4 hd bigN _ _ _ _ H)
  · rw [if_neg ck] at H; cases H
theorem hc_X12_worthOf : ci_code (ci_Ms 208) = k_X12_worthOf := rfl
theorem fe_X12_worthOf {pc : Nat} {w : Option ci_I} (h : (k_X12_worthOf)[pc]? = some w) : (k_X12_worthOf)[pc]? = some w := h
def b_X12_worthOf_153 (l3 : Int32)  (h : ci_H) : Option (Int32 × ci_H) := some (if 0 < (if l3 < 999 then l3 else 999) then if l3 < 999 then l3 else 999 else 0, h)
set_option maxHeartbeats 4000000 in
set_option maxRecDepth 20000 in
theorem eb_X12_worthOf_153 {xs : Nat → Int32} {N d : Nat} {nx : ci_N} {l3 : Int32} (hd : 104 ≤ d) {h : ci_H} {r : Int32 × ci_H} (H : b_X12_worthOf_153 l3 h = some r) : Ev xs N (d + 1) 208 153 [ci_junk, ci_junk, ci_junk, .int l3] [] h nx (oI r nx) := by
  unfold b_X12_worthOf_153 at H
  refine ev_go hc_X12_worthOf (k := 3) (pc' := 158) (L' := [ci_junk, ci_junk, ci_junk, .int l3]) (S' := [.int l3, .int 999, .int 0]) rfl ?_
  refine ev_15 hc_X12_worthOf (fe_X12_worthOf (pc := 158) rfl) (S' := [.int (if l3 < 999 then l3 else 999), .int 0]) rfl ?_
  refine ev_15 hc_X12_worthOf (fe_X12_worthOf (pc := 161) rfl) (S' := [.int (if 0 < (if l3 < 999 then l3 else 999) then if l3 < 999 then l3 else 999 else 0)]) rfl ?_
  obtain rfl := Option.some.inj H
  exact ev_8 hc_X12_worthOf (fe_X12_worthOf (pc := 164) rfl) rfl
def b_X12_worthOf_122 (l0 : Nat) (s0 : Nat) (s1 : Int32) (s2 : Int32)  (h : ci_H) : Option (Int32 × ci_H) := (wI h s0 s1 s2).bind fun h1 => (gR h1 l0 12 18).bind fun v2 => (gI h1 l0 12 19).bind fun v3 => (F_X12_begin l0 v2 v3 40 h1).bind fun h4 => (pF h4 l0 12 20 (.int 1)).bind fun h5 => (F_X12_held l0 0 h5).bind fun q6 => (pF q6.2 l0 12 20 (.int 0)).bind fun h7 => b_X12_worthOf_153 q6.1 h7
set_option maxHeartbeats 4000000 in
set_option maxRecDepth 20000 in
theorem eb_X12_worthOf_122 {xs : Nat → Int32} {N d : Nat} {nx : ci_N} {l0 : Nat} {s0 : Nat} {s1 : Int32} {s2 : Int32} (hd : 104 ≤ d) {h : ci_H} {r : Int32 × ci_H} (H : b_X12_worthOf_122 l0 s0 s1 s2 h = some r) : Ev xs N (d + 1) 208 122 [.ref l0, ci_junk, ci_junk, ci_junk] [.int s2, .int s1, .ref s0] h nx (oI r nx) := by
  unfold b_X12_worthOf_122 at H
  obtain ⟨h1, eh1, H⟩ := Option.bind_eq_some_iff.mp H
  refine ev_5 hc_X12_worthOf (fe_X12_worthOf (pc := 122) rfl) (wI_as eh1) ?_
  refine ev_go hc_X12_worthOf (k := 2) (pc' := 125) (L' := [.ref l0, ci_junk, ci_junk, ci_junk]) (S' := [.ref l0, .ref l0]) rfl ?_
  obtain ⟨v2, ev2, H⟩ := Option.bind_eq_some_iff.mp H
  refine ev_4 hc_X12_worthOf (fe_X12_worthOf (pc := 125) rfl) (gR_gf ev2) ?_
  refine ev_go hc_X12_worthOf (k := 1) (pc' := 129) (L' := [.ref l0, ci_junk, ci_junk, ci_junk]) (S' := [.ref l0, .ref v2, .ref l0]) rfl ?_
  obtain ⟨v3, ev3, H⟩ := Option.bind_eq_some_iff.mp H
  refine ev_4 hc_X12_worthOf (fe_X12_worthOf (pc := 129) rfl) (gI_gf ev3) ?_
  refine ev_go hc_X12_worthOf (k := 1) (pc' := 134) (L' := [.ref l0, ci_junk, ci_junk, ci_junk]) (S' := [.int 40, .int v3, .ref v2, .ref l0]) rfl ?_
  obtain ⟨h4, eh4, H⟩ := Option.bind_eq_some_iff.mp H
  refine ev_call (vs := [.ref l0, .ref v2, .int v3, .int 40]) (rest := []) (q := q_X12_begin) hc_X12_worthOf (Or.inr rfl) (fe_X12_worthOf (pc := 134) rfl) ms_180 rfl rfl (Nat.le_of_ble_eq_true rfl) (kO_recv (K_X12_begin eh4)) (E_X12_begin eh4 (by omega)) rfl ?_
  show Ev xs N (d + 1) 208 137 [.ref l0, ci_junk, ci_junk, ci_junk] [] h4 nx _
  refine ev_go hc_X12_worthOf (k := 2) (pc' := 139) (L' := [.ref l0, ci_junk, ci_junk, ci_junk]) (S' := [.int 1, .ref l0]) rfl ?_
  obtain ⟨h5, eh5, H⟩ := Option.bind_eq_some_iff.mp H
  refine ev_5 hc_X12_worthOf (fe_X12_worthOf (pc := 139) rfl) (pF_pf eh5) ?_
  refine ev_go hc_X12_worthOf (k := 2) (pc' := 144) (L' := [.ref l0, ci_junk, ci_junk, ci_junk]) (S' := [.int 0, .ref l0]) rfl ?_
  obtain ⟨q6, eq6, H⟩ := Option.bind_eq_some_iff.mp H
  refine ev_call (vs := [.ref l0, .int 0]) (rest := []) (q := q_X12_held) hc_X12_worthOf (Or.inr rfl) (fe_X12_worthOf (pc := 144) rfl) ms_194 rfl rfl (Nat.le_of_ble_eq_true rfl) (kO_recv (K_X12_held eq6)) (E_X12_held eq6 (by omega)) rfl ?_
  show Ev xs N (d + 1) 208 147 [.ref l0, ci_junk, ci_junk, ci_junk] [.int q6.1] q6.2 nx _
  refine ev_go hc_X12_worthOf (k := 3) (pc' := 150) (L' := [.ref l0, ci_junk, ci_junk, .int q6.1]) (S' := [.int 0, .ref l0]) rfl ?_
  obtain ⟨h7, eh7, H⟩ := Option.bind_eq_some_iff.mp H
  refine ev_5 hc_X12_worthOf (fe_X12_worthOf (pc := 150) rfl) (pF_pf eh7) ?_
  exact Ev.weak (ci_le_c (Or.inl rfl) (ci_le_c (Or.inl rfl) (ci_le_c (Or.inl rfl) (ci_le_c (Or.inr rfl) (ci_le_n))))) (eb_X12_worthOf_153 hd H)
def F_X12_worthOf (a0 : Nat) (a1 : Int32) (a2 : Int32) (h : ci_H) : Option (Int32 × ci_H) := if kO h a0 = some 12 then ((gR h a0 12 0).bind fun v1 => (rI h v1 a1).bind fun v2 => (F_J6_bitCount_0f7a4 v2 h).bind fun q3 => (gR q3.2 a0 12 0).bind fun v4 => (rI q3.2 v4 a1).bind fun v5 => (F_X12_kindsOf a0 v5 q3.2).bind fun q6 => (F_J6_bitCount_0f7a4 q6.1 q6.2).bind fun q7 => (gI q7.2 a0 12 19).bind fun v8 => if v8 ≤ 0 then (b_X12_worthOf_153 ((3 * q3.1) + q7.1) q7.2) else ((gR q7.2 a0 12 21).bind fun v10 => (gR q7.2 a0 12 0).bind fun v11 => (rI q7.2 v11 a1).bind fun v12 => (F_J6_bitCount_0f7a4 v12 q7.2).bind fun q13 => (wI q13.2 v10 0 q13.1).bind fun h14 => (gR h14 a0 12 21).bind fun v15 => (gR h14 a0 12 0).bind fun v16 => (rI h14 v16 a1).bind fun v17 => (F_X12_kindsOf a0 v17 h14).bind fun q18 => (F_J6_bitCount_0f7a4 q18.1 q18.2).bind fun q19 => (wI q19.2 v15 1 q19.1).bind fun h20 => (gR h20 a0 12 21).bind fun v21 => (wI h20 v21 2 a2).bind fun h22 => (gR h22 a0 12 21).bind fun v23 => (gR h22 a0 12 0).bind fun v24 => (F_X12_keptBy a0 v24 a2 h22).bind fun q25 => (F_J6_bitCount_0f7a4 q25.1 q25.2).bind fun q26 => (wI q26.2 v23 3 q26.1).bind fun h27 => (gR h27 a0 12 21).bind fun v28 => (wI h27 v28 4 a1).bind fun h29 => (gR h29 a0 12 21).bind fun v30 => (gR h29 a0 12 0).bind fun v31 => (rI h29 v31 (12 + a1)).bind fun v32 => if v32 = a2 then (b_X12_worthOf_122 a0 v30 5 1 h29) else (b_X12_worthOf_122 a0 v30 5 0 h29))) else none
theorem K_X12_worthOf {a0 : Nat} {a1 : Int32} {a2 : Int32} {h : ci_H} {r : Int32 × ci_H} (H : F_X12_worthOf a0 a1 a2 h = some r) : kO h a0 = some 12 := by
  unfold F_X12_worthOf at H
  by_cases c : kO h a0 = some 12
  · exact c
  · rw [if_neg c] at H; cases H
set_option maxHeartbeats 4000000 in
set_option maxRecDepth 20000 in
theorem E_X12_worthOf {xs : Nat → Int32} {N d : Nat} {nx : ci_N} {a0 : Nat} {a1 : Int32} {a2 : Int32} {h : ci_H} {r : Int32 × ci_H} (H : F_X12_worthOf a0 a1 a2 h = some r) (hd : 105 ≤ d) : Ev xs N d 208 0 (ci_entry [.ref a0, .int a1, .int a2] 4) [] h nx (oI r nx) := by
  obtain ⟨d, rfl⟩ : ∃ d2, d = d2 + 1 := ⟨d - 1, by omega⟩
  have hd : 104 ≤ d := by omega
  unfold F_X12_worthOf at H
  by_cases ck : kO h a0 = some 12
  · rw [if_pos ck] at H
    show Ev xs N (d + 1) 208 0 [.ref a0, .int a1, .int a2, ci_junk] [] h nx _
    refine ev_go hc_X12_worthOf (k := 2) (pc' := 2) (L' := [.ref a0, .int a1, .int a2, ci_junk]) (S' := [.ref a0, .int 3]) rfl ?_
    obtain ⟨v1, ev1, H⟩ := Option.bind_eq_some_iff.mp H
    refine ev_4 hc_X12_worthOf (fe_X12_worthOf (pc := 2) rfl) (gR_gf ev1) ?_
    refine ev_go hc_X12_worthOf (k := 1) (pc' := 6) (L' := [.ref a0, .int a1, .int a2, ci_junk]) (S' := [.int a1, .ref v1, .int 3]) rfl ?_
    obtain ⟨v2, ev2, H⟩ := Option.bind_eq_some_iff.mp H
    refine ev_4 hc_X12_worthOf (fe_X12_worthOf (pc := 6) rfl) (rI_al ev2) ?_
    obtain ⟨q3, eq3, H⟩ := Option.bind_eq_some_iff.mp H
    refine ev_call (vs := [.int v2]) (rest := [.int 3]) (q := q_J6_bitCount_0f7a4) hc_X12_worthOf (Or.inl rfl) (fe_X12_worthOf (pc := 7) rfl) ms_285 rfl rfl (Nat.le_of_ble_eq_true rfl) rfl (E_J6_bitCount_0f7a4 eq3 (by omega)) rfl ?_
    show Ev xs N (d + 1) 208 10 [.ref a0, .int a1, .int a2, ci_junk] [.int q3.1, .int 3] q3.2 nx _
    refine ev_go hc_X12_worthOf (k := 3) (pc' := 13) (L' := [.ref a0, .int a1, .int a2, ci_junk]) (S' := [.ref a0, .ref a0, .int (3 * q3.1)]) rfl ?_
    obtain ⟨v4, ev4, H⟩ := Option.bind_eq_some_iff.mp H
    refine ev_4 hc_X12_worthOf (fe_X12_worthOf (pc := 13) rfl) (gR_gf ev4) ?_
    refine ev_go hc_X12_worthOf (k := 1) (pc' := 17) (L' := [.ref a0, .int a1, .int a2, ci_junk]) (S' := [.int a1, .ref v4, .ref a0, .int (3 * q3.1)]) rfl ?_
    obtain ⟨v5, ev5, H⟩ := Option.bind_eq_some_iff.mp H
    refine ev_4 hc_X12_worthOf (fe_X12_worthOf (pc := 17) rfl) (rI_al ev5) ?_
    obtain ⟨q6, eq6, H⟩ := Option.bind_eq_some_iff.mp H
    refine ev_call (vs := [.ref a0, .int v5]) (rest := [.int (3 * q3.1)]) (q := q_X12_kindsOf) hc_X12_worthOf (Or.inr rfl) (fe_X12_worthOf (pc := 18) rfl) ms_201 rfl rfl (Nat.le_of_ble_eq_true rfl) (kO_recv (K_X12_kindsOf eq6)) (E_X12_kindsOf eq6 (by omega)) rfl ?_
    show Ev xs N (d + 1) 208 21 [.ref a0, .int a1, .int a2, ci_junk] [.int q6.1, .int (3 * q3.1)] q6.2 nx _
    obtain ⟨q7, eq7, H⟩ := Option.bind_eq_some_iff.mp H
    refine ev_call (vs := [.int q6.1]) (rest := [.int (3 * q3.1)]) (q := q_J6_bitCount_0f7a4) hc_X12_worthOf (Or.inl rfl) (fe_X12_worthOf (pc := 21) rfl) ms_285 rfl rfl (Nat.le_of_ble_eq_true rfl) rfl (E_J6_bitCount_0f7a4 eq7 (by omega)) rfl ?_
    show Ev xs N (d + 1) 208 24 [.ref a0, .int a1, .int a2, ci_junk] [.int q7.1, .int (3 * q3.1)] q7.2 nx _
    refine ev_go hc_X12_worthOf (k := 3) (pc' := 27) (L' := [.ref a0, .int a1, .int a2, .int ((3 * q3.1) + q7.1)]) (S' := [.ref a0]) rfl ?_
    obtain ⟨v8, ev8, H⟩ := Option.bind_eq_some_iff.mp H
    refine ev_4 hc_X12_worthOf (fe_X12_worthOf (pc := 27) rfl) (gI_gf ev8) ?_
    by_cases c9 : v8 ≤ 0
    · rw [if_pos c9] at H
      refine ev_bt hc_X12_worthOf (fe_X12_worthOf (pc := 30) rfl) rfl c9 ?_
      exact Ev.weak (ci_le_c (Or.inl rfl) (ci_le_c (Or.inl rfl) (ci_le_c (Or.inl rfl) (ci_le_c (Or.inr rfl) (ci_le_n))))) (eb_X12_worthOf_153 hd H)
    · rw [if_neg c9] at H
      refine ev_bf hc_X12_worthOf (fe_X12_worthOf (pc := 30) rfl) rfl c9 ?_
      refine ev_go hc_X12_worthOf (k := 1) (pc' := 34) (L' := [.ref a0, .int a1, .int a2, .int ((3 * q3.1) + q7.1)]) (S' := [.ref a0]) rfl ?_
      obtain ⟨v10, ev10, H⟩ := Option.bind_eq_some_iff.mp H
      refine ev_4 hc_X12_worthOf (fe_X12_worthOf (pc := 34) rfl) (gR_gf ev10) ?_
      refine ev_go hc_X12_worthOf (k := 2) (pc' := 39) (L' := [.ref a0, .int a1, .int a2, .int ((3 * q3.1) + q7.1)]) (S' := [.ref a0, .int 0, .ref v10]) rfl ?_
      obtain ⟨v11, ev11, H⟩ := Option.bind_eq_some_iff.mp H
      refine ev_4 hc_X12_worthOf (fe_X12_worthOf (pc := 39) rfl) (gR_gf ev11) ?_
      refine ev_go hc_X12_worthOf (k := 1) (pc' := 43) (L' := [.ref a0, .int a1, .int a2, .int ((3 * q3.1) + q7.1)]) (S' := [.int a1, .ref v11, .int 0, .ref v10]) rfl ?_
      obtain ⟨v12, ev12, H⟩ := Option.bind_eq_some_iff.mp H
      refine ev_4 hc_X12_worthOf (fe_X12_worthOf (pc := 43) rfl) (rI_al ev12) ?_
      obtain ⟨q13, eq13, H⟩ := Option.bind_eq_some_iff.mp H
      refine ev_call (vs := [.int v12]) (rest := [.int 0, .ref v10]) (q := q_J6_bitCount_0f7a4) hc_X12_worthOf (Or.inl rfl) (fe_X12_worthOf (pc := 44) rfl) ms_285 rfl rfl (Nat.le_of_ble_eq_true rfl) rfl (E_J6_bitCount_0f7a4 eq13 (by omega)) rfl ?_
      show Ev xs N (d + 1) 208 47 [.ref a0, .int a1, .int a2, .int ((3 * q3.1) + q7.1)] [.int q13.1, .int 0, .ref v10] q13.2 nx _
      obtain ⟨h14, eh14, H⟩ := Option.bind_eq_some_iff.mp H
      refine ev_5 hc_X12_worthOf (fe_X12_worthOf (pc := 47) rfl) (wI_as eh14) ?_
      refine ev_go hc_X12_worthOf (k := 1) (pc' := 49) (L' := [.ref a0, .int a1, .int a2, .int ((3 * q3.1) + q7.1)]) (S' := [.ref a0]) rfl ?_
      obtain ⟨v15, ev15, H⟩ := Option.bind_eq_some_iff.mp H
      refine ev_4 hc_X12_worthOf (fe_X12_worthOf (pc := 49) rfl) (gR_gf ev15) ?_
      refine ev_go hc_X12_worthOf (k := 3) (pc' := 55) (L' := [.ref a0, .int a1, .int a2, .int ((3 * q3.1) + q7.1)]) (S' := [.ref a0, .ref a0, .int 1, .ref v15]) rfl ?_
      obtain ⟨v16, ev16, H⟩ := Option.bind_eq_some_iff.mp H
      refine ev_4 hc_X12_worthOf (fe_X12_worthOf (pc := 55) rfl) (gR_gf ev16) ?_
      refine ev_go hc_X12_worthOf (k := 1) (pc' := 59) (L' := [.ref a0, .int a1, .int a2, .int ((3 * q3.1) + q7.1)]) (S' := [.int a1, .ref v16, .ref a0, .int 1, .ref v15]) rfl ?_
      obtain ⟨v17, ev17, H⟩ := Option.bind_eq_some_iff.mp H
      refine ev_4 hc_X12_worthOf (fe_X12_worthOf (pc := 59) rfl) (rI_al ev17) ?_
      obtain ⟨q18, eq18, H⟩ := Option.bind_eq_some_iff.mp H
      refine ev_call (vs := [.ref a0, .int v17]) (rest := [.int 1, .ref v15]) (q := q_X12_kindsOf) hc_X12_worthOf (Or.inr rfl) (fe_X12_worthOf (pc := 60) rfl) ms_201 rfl rfl (Nat.le_of_ble_eq_true rfl) (kO_recv (K_X12_kindsOf eq18)) (E_X12_kindsOf eq18 (by omega)) rfl ?_
      show Ev xs N (d + 1) 208 63 [.ref a0, .int a1, .int a2, .int ((3 * q3.1) + q7.1)] [.int q18.1, .int 1, .ref v15] q18.2 nx _
      obtain ⟨q19, eq19, H⟩ := Option.bind_eq_some_iff.mp H
      refine ev_call (vs := [.int q18.1]) (rest := [.int 1, .ref v15]) (q := q_J6_bitCount_0f7a4) hc_X12_worthOf (Or.inl rfl) (fe_X12_worthOf (pc := 63) rfl) ms_285 rfl rfl (Nat.le_of_ble_eq_true rfl) rfl (E_J6_bitCount_0f7a4 eq19 (by omega)) rfl ?_
      show Ev xs N (d + 1) 208 66 [.ref a0, .int a1, .int a2, .int ((3 * q3.1) + q7.1)] [.int q19.1, .int 1, .ref v15] q19.2 nx _
      obtain ⟨h20, eh20, H⟩ := Option.bind_eq_some_iff.mp H
      refine ev_5 hc_X12_worthOf (fe_X12_worthOf (pc := 66) rfl) (wI_as eh20) ?_
      refine ev_go hc_X12_worthOf (k := 1) (pc' := 68) (L' := [.ref a0, .int a1, .int a2, .int ((3 * q3.1) + q7.1)]) (S' := [.ref a0]) rfl ?_
      obtain ⟨v21, ev21, H⟩ := Option.bind_eq_some_iff.mp H
      refine ev_4 hc_X12_worthOf (fe_X12_worthOf (pc := 68) rfl) (gR_gf ev21) ?_
      refine ev_go hc_X12_worthOf (k := 2) (pc' := 73) (L' := [.ref a0, .int a1, .int a2, .int ((3 * q3.1) + q7.1)]) (S' := [.int a2, .int 2, .ref v21]) rfl ?_
      obtain ⟨h22, eh22, H⟩ := Option.bind_eq_some_iff.mp H
      refine ev_5 hc_X12_worthOf (fe_X12_worthOf (pc := 73) rfl) (wI_as eh22) ?_
      refine ev_go hc_X12_worthOf (k := 1) (pc' := 75) (L' := [.ref a0, .int a1, .int a2, .int ((3 * q3.1) + q7.1)]) (S' := [.ref a0]) rfl ?_
      obtain ⟨v23, ev23, H⟩ := Option.bind_eq_some_iff.mp H
      refine ev_4 hc_X12_worthOf (fe_X12_worthOf (pc := 75) rfl) (gR_gf ev23) ?_
      refine ev_go hc_X12_worthOf (k := 3) (pc' := 81) (L' := [.ref a0, .int a1, .int a2, .int ((3 * q3.1) + q7.1)]) (S' := [.ref a0, .ref a0, .int 3, .ref v23]) rfl ?_
      obtain ⟨v24, ev24, H⟩ := Option.bind_eq_some_iff.mp H
      refine ev_4 hc_X12_worthOf (fe_X12_worthOf (pc := 81) rfl) (gR_gf ev24) ?_
      refine ev_go hc_X12_worthOf (k := 1) (pc' := 85) (L' := [.ref a0, .int a1, .int a2, .int ((3 * q3.1) + q7.1)]) (S' := [.int a2, .ref v24, .ref a0, .int 3, .ref v23]) rfl ?_
      obtain ⟨q25, eq25, H⟩ := Option.bind_eq_some_iff.mp H
      refine ev_call (vs := [.ref a0, .ref v24, .int a2]) (rest := [.int 3, .ref v23]) (q := q_X12_keptBy) hc_X12_worthOf (Or.inr rfl) (fe_X12_worthOf (pc := 85) rfl) ms_202 rfl rfl (Nat.le_of_ble_eq_true rfl) (kO_recv (K_X12_keptBy eq25)) (E_X12_keptBy eq25 (by omega)) rfl ?_
      show Ev xs N (d + 1) 208 88 [.ref a0, .int a1, .int a2, .int ((3 * q3.1) + q7.1)] [.int q25.1, .int 3, .ref v23] q25.2 nx _
      obtain ⟨q26, eq26, H⟩ := Option.bind_eq_some_iff.mp H
      refine ev_call (vs := [.int q25.1]) (rest := [.int 3, .ref v23]) (q := q_J6_bitCount_0f7a4) hc_X12_worthOf (Or.inl rfl) (fe_X12_worthOf (pc := 88) rfl) ms_285 rfl rfl (Nat.le_of_ble_eq_true rfl) rfl (E_J6_bitCount_0f7a4 eq26 (by omega)) rfl ?_
      show Ev xs N (d + 1) 208 91 [.ref a0, .int a1, .int a2, .int ((3 * q3.1) + q7.1)] [.int q26.1, .int 3, .ref v23] q26.2 nx _
      obtain ⟨h27, eh27, H⟩ := Option.bind_eq_some_iff.mp H
      refine ev_5 hc_X12_worthOf (fe_X12_worthOf (pc := 91) rfl) (wI_as eh27) ?_
      refine ev_go hc_X12_worthOf (k := 1) (pc' := 93) (L' := [.ref a0, .int a1, .int a2, .int ((3 * q3.1) + q7.1)]) (S' := [.ref a0]) rfl ?_
      obtain ⟨v28, ev28, H⟩ := Option.bind_eq_some_iff.mp H
      refine ev_4 hc_X12_worthOf (fe_X12_worthOf (pc := 93) rfl) (gR_gf ev28) ?_
      refine ev_go hc_X12_worthOf (k := 2) (pc' := 98) (L' := [.ref a0, .int a1, .int a2, .int ((3 * q3.1) + q7.1)]) (S' := [.int a1, .int 4, .ref v28]) rfl ?_
      obtain ⟨h29, eh29, H⟩ := Option.bind_eq_some_iff.mp H
      refine ev_5 hc_X12_worthOf (fe_X12_worthOf (pc := 98) rfl) (wI_as eh29) ?_
      refine ev_go hc_X12_worthOf (k := 1) (pc' := 100) (L' := [.ref a0, .int a1, .int a2, .int ((3 * q3.1) + q7.1)]) (S' := [.ref a0]) rfl ?_
      obtain ⟨v30, ev30, H⟩ := Option.bind_eq_some_iff.mp H
      refine ev_4 hc_X12_worthOf (fe_X12_worthOf (pc := 100) rfl) (gR_gf ev30) ?_
      refine ev_go hc_X12_worthOf (k := 2) (pc' := 105) (L' := [.ref a0, .int a1, .int a2, .int ((3 * q3.1) + q7.1)]) (S' := [.ref a0, .int 5, .ref v30]) rfl ?_
      obtain ⟨v31, ev31, H⟩ := Option.bind_eq_some_iff.mp H
      refine ev_4 hc_X12_worthOf (fe_X12_worthOf (pc := 105) rfl) (gR_gf ev31) ?_
      refine ev_go hc_X12_worthOf (k := 3) (pc' := 112) (L' := [.ref a0, .int a1, .int a2, .int ((3 * q3.1) + q7.1)]) (S' := [.int (12 + a1), .ref v31, .int 5, .ref v30]) rfl ?_
      obtain ⟨v32, ev32, H⟩ := Option.bind_eq_some_iff.mp H
      refine ev_4 hc_X12_worthOf (fe_X12_worthOf (pc := 112) rfl) (rI_al ev32) ?_
      refine ev_go hc_X12_worthOf (k := 1) (pc' := 114) (L' := [.ref a0, .int a1, .int a2, .int ((3 * q3.1) + q7.1)]) (S' := [.int a2, .int v32, .int 5, .ref v30]) rfl ?_
      by_cases c33 : v32 = a2
      · rw [if_pos c33] at H
        refine ev_bt hc_X12_worthOf (fe_X12_worthOf (pc := 114) rfl) rfl c33 ?_
        refine ev_go hc_X12_worthOf (k := 2) (pc' := 122) (L' := [.ref a0, .int a1, .int a2, .int ((3 * q3.1) + q7.1)]) (S' := [.int 1, .int 5, .ref v30]) rfl ?_
        exact Ev.weak (ci_le_c (Or.inr rfl) (ci_le_c (Or.inl rfl) (ci_le_c (Or.inl rfl) (ci_le_c (Or.inl rfl) (ci_le_n))))) (eb_X12_worthOf_122 hd H)
      · rw [if_neg c33] at H
        refine ev_bf hc_X12_worthOf (fe_X12_worthOf (pc := 114) rfl) rfl c33 ?_
        refine ev_go hc_X12_worthOf (k := 1) (pc' := 122) (L' := [.ref a0, .int a1, .int a2, .int ((3 * q3.1) + q7.1)]) (S' := [.int 0, .int 5, .ref v30]) rfl ?_
        exact Ev.weak (ci_le_c (Or.inr rfl) (ci_le_c (Or.inl rfl) (ci_le_c (Or.inl rfl) (ci_le_c (Or.inl rfl) (ci_le_n))))) (eb_X12_worthOf_122 hd H)
  · rw [if_neg ck] at H; cases H
theorem hc_X12_lentBits : ci_code (ci_Ms 209) = k_X12_lentBits := rfl
theorem fe_X12_lentBits {pc : Nat} {w : Option ci_I} (h : (k_X12_lentBits)[pc]? = some w) : (k_X12_lentBits)[pc]? = some w := h
def b_X12_lentBits_41 (r_4 : Int32 → Int32 → ci_H → Option (Int32 × ci_H)) (l0 : Nat) (l2 : Int32) (s0 : Int32) (s1 : Int32)  (h : ci_H) : Option (Int32 × ci_H) := r_4 (s0 ||| s1) (l2 + 1) h
set_option maxHeartbeats 4000000 in
set_option maxRecDepth 20000 in
theorem eb_X12_lentBits_41 {xs : Nat → Int32} {N d : Nat} {nx : ci_N} {r_4 : Int32 → Int32 → ci_H → Option (Int32 × ci_H)} {l0 : Nat} {l2 : Int32} {s0 : Int32} {s1 : Int32} (h_4 : ∀ (l1 : Int32) (l2 : Int32) (h : ci_H) (r : Int32 × ci_H), r_4 l1 l2 h = some r → Ev xs N d 209 4 [.ref l0, .int l1, .int l2] [] h nx (oI r nx)) {h : ci_H} {r : Int32 × ci_H} (H : b_X12_lentBits_41 r_4 l0 l2 s0 s1 h = some r) : Ev xs N d 209 41 [.ref l0, ci_junk, .int l2] [.int s1, .int s0] h nx (oI r nx) := by
  unfold b_X12_lentBits_41 at H
  refine ev_go hc_X12_lentBits (k := 4) (pc' := 4) (L' := [.ref l0, .int (s0 ||| s1), .int (l2 + 1)]) (S' := []) rfl ?_
  exact Ev.weak (ci_le_c (Or.inr rfl) (ci_le_c (Or.inr rfl) (ci_le_c (Or.inr rfl) (ci_le_n)))) (h_4 _ _ _ _ H)
def b_X12_lentBits_4 (l0 : Nat) : Nat → Int32 → Int32 → ci_H → Option (Int32 × ci_H)
  | 0, _, _, _ => none
  | n + 1, l1, l2, h => (gI h l0 12 2).bind fun v1 => if v1 ≤ l2 then (some (l1, h)) else ((gR h l0 12 0).bind fun v3 => (rI h v3 (12 + l2)).bind fun v4 => (gR h l0 12 0).bind fun v5 => (rI h v5 (24 + l2)).bind fun v6 => if v4 = v6 then (b_X12_lentBits_41 (fun x0 x1 x2 => b_X12_lentBits_4 l0 n x0 x1 x2) l0 l2 l1 0 h) else (b_X12_lentBits_41 (fun x0 x1 x2 => b_X12_lentBits_4 l0 n x0 x1 x2) l0 l2 l1 ((1 : Int32) <<< (l2 &&& 31)) h))
set_option maxHeartbeats 4000000 in
set_option maxRecDepth 20000 in
theorem eb_X12_lentBits_4 {xs : Nat → Int32} {N d : Nat} {nx : ci_N} {l0 : Nat} : ∀ (n : Nat) (l1 : Int32) (l2 : Int32) (h : ci_H) (r : Int32 × ci_H), b_X12_lentBits_4 l0 n l1 l2 h = some r → Ev xs N d 209 4 [.ref l0, .int l1, .int l2] [] h nx (oI r nx) := by
  intro n
  induction n with
  | zero => intro l1 l2 h r H; unfold b_X12_lentBits_4 at H; cases H
  | succ n ih =>
    intro l1 l2 h r H
    unfold b_X12_lentBits_4 at H
    refine ev_go hc_X12_lentBits (k := 2) (pc' := 6) (L' := [.ref l0, .int l1, .int l2]) (S' := [.ref l0, .int l2]) rfl ?_
    obtain ⟨v1, ev1, H⟩ := Option.bind_eq_some_iff.mp H
    refine ev_4 hc_X12_lentBits (fe_X12_lentBits (pc := 6) rfl) (gI_gf ev1) ?_
    by_cases c2 : v1 ≤ l2
    · rw [if_pos c2] at H
      refine ev_bt hc_X12_lentBits (fe_X12_lentBits (pc := 9) rfl) rfl c2 ?_
      refine ev_go hc_X12_lentBits (k := 1) (pc' := 50) (L' := [.ref l0, .int l1, .int l2]) (S' := [.int l1]) rfl ?_
      obtain rfl := Option.some.inj H
      exact ev_8 hc_X12_lentBits (fe_X12_lentBits (pc := 50) rfl) rfl
    · rw [if_neg c2] at H
      refine ev_bf hc_X12_lentBits (fe_X12_lentBits (pc := 9) rfl) rfl c2 ?_
      refine ev_go hc_X12_lentBits (k := 2) (pc' := 14) (L' := [.ref l0, .int l1, .int l2]) (S' := [.ref l0, .int l1]) rfl ?_
      obtain ⟨v3, ev3, H⟩ := Option.bind_eq_some_iff.mp H
      refine ev_4 hc_X12_lentBits (fe_X12_lentBits (pc := 14) rfl) (gR_gf ev3) ?_
      refine ev_go hc_X12_lentBits (k := 3) (pc' := 21) (L' := [.ref l0, .int l1, .int l2]) (S' := [.int (12 + l2), .ref v3, .int l1]) rfl ?_
      obtain ⟨v4, ev4, H⟩ := Option.bind_eq_some_iff.mp H
      refine ev_4 hc_X12_lentBits (fe_X12_lentBits (pc := 21) rfl) (rI_al ev4) ?_
      refine ev_go hc_X12_lentBits (k := 1) (pc' := 23) (L' := [.ref l0, .int l1, .int l2]) (S' := [.ref l0, .int v4, .int l1]) rfl ?_
      obtain ⟨v5, ev5, H⟩ := Option.bind_eq_some_iff.mp H
      refine ev_4 hc_X12_lentBits (fe_X12_lentBits (pc := 23) rfl) (gR_gf ev5) ?_
      refine ev_go hc_X12_lentBits (k := 3) (pc' := 30) (L' := [.ref l0, .int l1, .int l2]) (S' := [.int (24 + l2), .ref v5, .int v4, .int l1]) rfl ?_
      obtain ⟨v6, ev6, H⟩ := Option.bind_eq_some_iff.mp H
      refine ev_4 hc_X12_lentBits (fe_X12_lentBits (pc := 30) rfl) (rI_al ev6) ?_
      by_cases c7 : v4 = v6
      · rw [if_pos c7] at H
        refine ev_bt hc_X12_lentBits (fe_X12_lentBits (pc := 31) rfl) rfl c7 ?_
        refine ev_go hc_X12_lentBits (k := 1) (pc' := 41) (L' := [.ref l0, .int l1, .int l2]) (S' := [.int 0, .int l1]) rfl ?_
        exact Ev.weak (ci_le_c (Or.inr rfl) (ci_le_c (Or.inl rfl) (ci_le_c (Or.inr rfl) (ci_le_n)))) (eb_X12_lentBits_41 ih H)
      · rw [if_neg c7] at H
        refine ev_bf hc_X12_lentBits (fe_X12_lentBits (pc := 31) rfl) rfl c7 ?_
        refine ev_go hc_X12_lentBits (k := 4) (pc' := 41) (L' := [.ref l0, .int l1, .int l2]) (S' := [.int ((1 : Int32) <<< (l2 &&& 31)), .int l1]) rfl ?_
        exact Ev.weak (ci_le_c (Or.inr rfl) (ci_le_c (Or.inl rfl) (ci_le_c (Or.inr rfl) (ci_le_n)))) (eb_X12_lentBits_41 ih H)
def F_X12_lentBits (a0 : Nat) (h : ci_H) : Option (Int32 × ci_H) := if kO h a0 = some 12 then (b_X12_lentBits_4 a0 bigN 0 0 h) else none
theorem K_X12_lentBits {a0 : Nat} {h : ci_H} {r : Int32 × ci_H} (H : F_X12_lentBits a0 h = some r) : kO h a0 = some 12 := by
  unfold F_X12_lentBits at H
  by_cases c : kO h a0 = some 12
  · exact c
  · rw [if_neg c] at H; cases H
set_option maxHeartbeats 4000000 in
set_option maxRecDepth 20000 in
theorem E_X12_lentBits {xs : Nat → Int32} {N d : Nat} {nx : ci_N} {a0 : Nat} {h : ci_H} {r : Int32 × ci_H} (H : F_X12_lentBits a0 h = some r) (hd : 0 ≤ d) : Ev xs N d 209 0 (ci_entry [.ref a0] 3) [] h nx (oI r nx) := by
  unfold F_X12_lentBits at H
  by_cases ck : kO h a0 = some 12
  · rw [if_pos ck] at H
    show Ev xs N d 209 0 [.ref a0, ci_junk, ci_junk] [] h nx _
    refine ev_go hc_X12_lentBits (k := 4) (pc' := 4) (L' := [.ref a0, .int 0, .int 0]) (S' := []) rfl ?_
    exact Ev.weak (ci_le_c (Or.inr rfl) (ci_le_c (Or.inr rfl) (ci_le_c (Or.inr rfl) (ci_le_n)))) (eb_X12_lentBits_4 bigN _ _ _ _ H)
  · rw [if_neg ck] at H; cases H
theorem hc_X12_thing : ci_code (ci_Ms 210) = k_X12_thing := rfl
theorem fe_X12_thing {pc : Nat} {w : Option ci_I} (h : (k_X12_thing)[pc]? = some w) : (k_X12_thing)[pc]? = some w := h
def b_X12_thing_22 (l0 : Nat)  (h : ci_H) : Option (Int32 × ci_H) := (F_X12_lost l0 h).bind fun q1 => some (q1.1, q1.2)
set_option maxHeartbeats 4000000 in
set_option maxRecDepth 20000 in
theorem eb_X12_thing_22 {xs : Nat → Int32} {N d : Nat} {nx : ci_N} {l0 : Nat} (hd : 1 ≤ d) {h : ci_H} {r : Int32 × ci_H} (H : b_X12_thing_22 l0 h = some r) : Ev xs N (d + 1) 210 22 [.ref l0, ci_junk, ci_junk] [] h nx (oI r nx) := by
  unfold b_X12_thing_22 at H
  refine ev_go hc_X12_thing (k := 1) (pc' := 23) (L' := [.ref l0, ci_junk, ci_junk]) (S' := [.ref l0]) rfl ?_
  obtain ⟨q1, eq1, H⟩ := Option.bind_eq_some_iff.mp H
  refine ev_call (vs := [.ref l0]) (rest := []) (q := q_X12_lost) hc_X12_thing (Or.inr rfl) (fe_X12_thing (pc := 23) rfl) ms_172 rfl rfl (Nat.le_of_ble_eq_true rfl) (kO_recv (K_X12_lost eq1)) (E_X12_lost eq1 (by omega)) rfl ?_
  show Ev xs N (d + 1) 210 26 [.ref l0, ci_junk, ci_junk] [.int q1.1] q1.2 nx _
  obtain rfl := Option.some.inj H
  exact ev_8 hc_X12_thing (fe_X12_thing (pc := 26) rfl) rfl
def F_X12_thing (a0 : Nat) (a1 : Int32) (a2 : Int32) (h : ci_H) : Option (Int32 × ci_H) := if kO h a0 = some 12 then ((pF h a0 12 11 (.int 0)).bind fun h1 => (F_X12_isThing a0 a1 h1).bind fun q2 => if q2.1 = 0 then (b_X12_thing_22 a0 q2.2) else ((F_X12_in a2 0 4 q2.2).bind fun q4 => if q4.1 = 0 then (b_X12_thing_22 a0 q4.2) else (if a2 = 0 then ((gR q4.2 a0 12 0).bind fun v7 => (rI q4.2 v7 a1).bind fun v8 => some (v8, q4.2)) else (if a2 = 1 then ((gR q4.2 a0 12 0).bind fun v10 => (rI q4.2 v10 (12 + a1)).bind fun v11 => some (v11, q4.2)) else (if a2 = 2 then ((gR q4.2 a0 12 0).bind fun v13 => (rI q4.2 v13 (24 + a1)).bind fun v14 => some (v14, q4.2)) else (if a2 = 3 then ((gR q4.2 a0 12 0).bind fun v16 => (rI q4.2 v16 a1).bind fun v17 => (F_X12_kindsOf a0 v17 q4.2).bind fun q18 => some (q18.1, q18.2)) else ((F_X12_lentBits a0 q4.2).bind fun q19 => some ((q19.1 >>> (a1 &&& 31)) &&& 1, q19.2)))))))) else none
theorem K_X12_thing {a0 : Nat} {a1 : Int32} {a2 : Int32} {h : ci_H} {r : Int32 × ci_H} (H : F_X12_thing a0 a1 a2 h = some r) : kO h a0 = some 12 := by
  unfold F_X12_thing at H
  by_cases c : kO h a0 = some 12
  · exact c
  · rw [if_neg c] at H; cases H
set_option maxHeartbeats 4000000 in
set_option maxRecDepth 20000 in
theorem E_X12_thing {xs : Nat → Int32} {N d : Nat} {nx : ci_N} {a0 : Nat} {a1 : Int32} {a2 : Int32} {h : ci_H} {r : Int32 × ci_H} (H : F_X12_thing a0 a1 a2 h = some r) (hd : 2 ≤ d) : Ev xs N d 210 0 (ci_entry [.ref a0, .int a1, .int a2] 3) [] h nx (oI r nx) := by
  obtain ⟨d, rfl⟩ : ∃ d2, d = d2 + 1 := ⟨d - 1, by omega⟩
  have hd : 1 ≤ d := by omega
  unfold F_X12_thing at H
  by_cases ck : kO h a0 = some 12
  · rw [if_pos ck] at H
    show Ev xs N (d + 1) 210 0 [.ref a0, .int a1, .int a2] [] h nx _
    refine ev_go hc_X12_thing (k := 2) (pc' := 2) (L' := [.ref a0, .int a1, .int a2]) (S' := [.int 0, .ref a0]) rfl ?_
    obtain ⟨h1, eh1, H⟩ := Option.bind_eq_some_iff.mp H
    refine ev_5 hc_X12_thing (fe_X12_thing (pc := 2) rfl) (pF_pf eh1) ?_
    refine ev_go hc_X12_thing (k := 2) (pc' := 7) (L' := [.ref a0, .int a1, .int a2]) (S' := [.int a1, .ref a0]) rfl ?_
    obtain ⟨q2, eq2, H⟩ := Option.bind_eq_some_iff.mp H
    refine ev_call (vs := [.ref a0, .int a1]) (rest := []) (q := q_X12_isThing) hc_X12_thing (Or.inr rfl) (fe_X12_thing (pc := 7) rfl) ms_174 rfl rfl (Nat.le_of_ble_eq_true rfl) (kO_recv (K_X12_isThing eq2)) (E_X12_isThing eq2 (by omega)) rfl ?_
    show Ev xs N (d + 1) 210 10 [.ref a0, .int a1, .int a2] [.int q2.1] q2.2 nx _
    by_cases c3 : q2.1 = 0
    · rw [if_pos c3] at H
      refine ev_bt hc_X12_thing (fe_X12_thing (pc := 10) rfl) rfl c3 ?_
      exact Ev.weak (ci_le_c (Or.inr rfl) (ci_le_c (Or.inl rfl) (ci_le_c (Or.inl rfl) (ci_le_n)))) (eb_X12_thing_22 hd H)
    · rw [if_neg c3] at H
      refine ev_bf hc_X12_thing (fe_X12_thing (pc := 10) rfl) rfl c3 ?_
      refine ev_go hc_X12_thing (k := 3) (pc' := 16) (L' := [.ref a0, .int a1, .int a2]) (S' := [.int 4, .int 0, .int a2]) rfl ?_
      obtain ⟨q4, eq4, H⟩ := Option.bind_eq_some_iff.mp H
      refine ev_call (vs := [.int a2, .int 0, .int 4]) (rest := []) (q := q_X12_in) hc_X12_thing (Or.inl rfl) (fe_X12_thing (pc := 16) rfl) ms_170 rfl rfl (Nat.le_of_ble_eq_true rfl) rfl (E_X12_in eq4 (by omega)) rfl ?_
      show Ev xs N (d + 1) 210 19 [.ref a0, .int a1, .int a2] [.int q4.1] q4.2 nx _
      by_cases c5 : q4.1 = 0
      · rw [if_pos c5] at H
        refine ev_bt hc_X12_thing (fe_X12_thing (pc := 19) rfl) rfl c5 ?_
        exact Ev.weak (ci_le_c (Or.inr rfl) (ci_le_c (Or.inl rfl) (ci_le_c (Or.inl rfl) (ci_le_n)))) (eb_X12_thing_22 hd H)
      · rw [if_neg c5] at H
        refine ev_bf hc_X12_thing (fe_X12_thing (pc := 19) rfl) rfl c5 ?_
        refine ev_go hc_X12_thing (k := 1) (pc' := 28) (L' := [.ref a0, .int a1, .int a2]) (S' := [.int a2]) rfl ?_
        by_cases c6 : a2 = 0
        · rw [if_pos c6] at H
          refine ev_bt hc_X12_thing (fe_X12_thing (pc := 28) rfl) rfl c6 ?_
          refine ev_go hc_X12_thing (k := 1) (pc' := 32) (L' := [.ref a0, .int a1, .int a2]) (S' := [.ref a0]) rfl ?_
          obtain ⟨v7, ev7, H⟩ := Option.bind_eq_some_iff.mp H
          refine ev_4 hc_X12_thing (fe_X12_thing (pc := 32) rfl) (gR_gf ev7) ?_
          refine ev_go hc_X12_thing (k := 1) (pc' := 36) (L' := [.ref a0, .int a1, .int a2]) (S' := [.int a1, .ref v7]) rfl ?_
          obtain ⟨v8, ev8, H⟩ := Option.bind_eq_some_iff.mp H
          refine ev_4 hc_X12_thing (fe_X12_thing (pc := 36) rfl) (rI_al ev8) ?_
          refine ev_go hc_X12_thing (k := 1) (pc' := 100) (L' := [.ref a0, .int a1, .int a2]) (S' := [.int v8]) rfl ?_
          obtain rfl := Option.some.inj H
          exact ev_8 hc_X12_thing (fe_X12_thing (pc := 100) rfl) rfl
        · rw [if_neg c6] at H
          refine ev_bf hc_X12_thing (fe_X12_thing (pc := 28) rfl) rfl c6 ?_
          refine ev_go hc_X12_thing (k := 2) (pc' := 42) (L' := [.ref a0, .int a1, .int a2]) (S' := [.int 1, .int a2]) rfl ?_
          by_cases c9 : a2 = 1
          · rw [if_pos c9] at H
            refine ev_bt hc_X12_thing (fe_X12_thing (pc := 42) rfl) rfl c9 ?_
            refine ev_go hc_X12_thing (k := 1) (pc' := 46) (L' := [.ref a0, .int a1, .int a2]) (S' := [.ref a0]) rfl ?_
            obtain ⟨v10, ev10, H⟩ := Option.bind_eq_some_iff.mp H
            refine ev_4 hc_X12_thing (fe_X12_thing (pc := 46) rfl) (gR_gf ev10) ?_
            refine ev_go hc_X12_thing (k := 3) (pc' := 53) (L' := [.ref a0, .int a1, .int a2]) (S' := [.int (12 + a1), .ref v10]) rfl ?_
            obtain ⟨v11, ev11, H⟩ := Option.bind_eq_some_iff.mp H
            refine ev_4 hc_X12_thing (fe_X12_thing (pc := 53) rfl) (rI_al ev11) ?_
            refine ev_go hc_X12_thing (k := 1) (pc' := 100) (L' := [.ref a0, .int a1, .int a2]) (S' := [.int v11]) rfl ?_
            obtain rfl := Option.some.inj H
            exact ev_8 hc_X12_thing (fe_X12_thing (pc := 100) rfl) rfl
          · rw [if_neg c9] at H
            refine ev_bf hc_X12_thing (fe_X12_thing (pc := 42) rfl) rfl c9 ?_
            refine ev_go hc_X12_thing (k := 2) (pc' := 59) (L' := [.ref a0, .int a1, .int a2]) (S' := [.int 2, .int a2]) rfl ?_
            by_cases c12 : a2 = 2
            · rw [if_pos c12] at H
              refine ev_bt hc_X12_thing (fe_X12_thing (pc := 59) rfl) rfl c12 ?_
              refine ev_go hc_X12_thing (k := 1) (pc' := 63) (L' := [.ref a0, .int a1, .int a2]) (S' := [.ref a0]) rfl ?_
              obtain ⟨v13, ev13, H⟩ := Option.bind_eq_some_iff.mp H
              refine ev_4 hc_X12_thing (fe_X12_thing (pc := 63) rfl) (gR_gf ev13) ?_
              refine ev_go hc_X12_thing (k := 3) (pc' := 70) (L' := [.ref a0, .int a1, .int a2]) (S' := [.int (24 + a1), .ref v13]) rfl ?_
              obtain ⟨v14, ev14, H⟩ := Option.bind_eq_some_iff.mp H
              refine ev_4 hc_X12_thing (fe_X12_thing (pc := 70) rfl) (rI_al ev14) ?_
              refine ev_go hc_X12_thing (k := 1) (pc' := 100) (L' := [.ref a0, .int a1, .int a2]) (S' := [.int v14]) rfl ?_
              obtain rfl := Option.some.inj H
              exact ev_8 hc_X12_thing (fe_X12_thing (pc := 100) rfl) rfl
            · rw [if_neg c12] at H
              refine ev_bf hc_X12_thing (fe_X12_thing (pc := 59) rfl) rfl c12 ?_
              refine ev_go hc_X12_thing (k := 2) (pc' := 76) (L' := [.ref a0, .int a1, .int a2]) (S' := [.int 3, .int a2]) rfl ?_
              by_cases c15 : a2 = 3
              · rw [if_pos c15] at H
                refine ev_bt hc_X12_thing (fe_X12_thing (pc := 76) rfl) rfl c15 ?_
                refine ev_go hc_X12_thing (k := 2) (pc' := 81) (L' := [.ref a0, .int a1, .int a2]) (S' := [.ref a0, .ref a0]) rfl ?_
                obtain ⟨v16, ev16, H⟩ := Option.bind_eq_some_iff.mp H
                refine ev_4 hc_X12_thing (fe_X12_thing (pc := 81) rfl) (gR_gf ev16) ?_
                refine ev_go hc_X12_thing (k := 1) (pc' := 85) (L' := [.ref a0, .int a1, .int a2]) (S' := [.int a1, .ref v16, .ref a0]) rfl ?_
                obtain ⟨v17, ev17, H⟩ := Option.bind_eq_some_iff.mp H
                refine ev_4 hc_X12_thing (fe_X12_thing (pc := 85) rfl) (rI_al ev17) ?_
                obtain ⟨q18, eq18, H⟩ := Option.bind_eq_some_iff.mp H
                refine ev_call (vs := [.ref a0, .int v17]) (rest := []) (q := q_X12_kindsOf) hc_X12_thing (Or.inr rfl) (fe_X12_thing (pc := 86) rfl) ms_201 rfl rfl (Nat.le_of_ble_eq_true rfl) (kO_recv (K_X12_kindsOf eq18)) (E_X12_kindsOf eq18 (by omega)) rfl ?_
                show Ev xs N (d + 1) 210 89 [.ref a0, .int a1, .int a2] [.int q18.1] q18.2 nx _
                refine ev_go hc_X12_thing (k := 1) (pc' := 100) (L' := [.ref a0, .int a1, .int a2]) (S' := [.int q18.1]) rfl ?_
                obtain rfl := Option.some.inj H
                exact ev_8 hc_X12_thing (fe_X12_thing (pc := 100) rfl) rfl
              · rw [if_neg c15] at H
                refine ev_bf hc_X12_thing (fe_X12_thing (pc := 76) rfl) rfl c15 ?_
                refine ev_go hc_X12_thing (k := 1) (pc' := 93) (L' := [.ref a0, .int a1, .int a2]) (S' := [.ref a0]) rfl ?_
                obtain ⟨q19, eq19, H⟩ := Option.bind_eq_some_iff.mp H
                refine ev_call (vs := [.ref a0]) (rest := []) (q := q_X12_lentBits) hc_X12_thing (Or.inr rfl) (fe_X12_thing (pc := 93) rfl) ms_209 rfl rfl (Nat.le_of_ble_eq_true rfl) (kO_recv (K_X12_lentBits eq19)) (E_X12_lentBits eq19 (by omega)) rfl ?_
                show Ev xs N (d + 1) 210 96 [.ref a0, .int a1, .int a2] [.int q19.1] q19.2 nx _
                refine ev_go hc_X12_thing (k := 4) (pc' := 100) (L' := [.ref a0, .int a1, .int a2]) (S' := [.int ((q19.1 >>> (a1 &&& 31)) &&& 1)]) rfl ?_
                obtain rfl := Option.some.inj H
                exact ev_8 hc_X12_thing (fe_X12_thing (pc := 100) rfl) rfl
  · rw [if_neg ck] at H; cases H
theorem hc_X12_kind : ci_code (ci_Ms 211) = k_X12_kind := rfl
theorem fe_X12_kind {pc : Nat} {w : Option ci_I} (h : (k_X12_kind)[pc]? = some w) : (k_X12_kind)[pc]? = some w := h
def b_X12_kind_22 (l0 : Nat)  (h : ci_H) : Option (Int32 × ci_H) := (F_X12_lost l0 h).bind fun q1 => some (q1.1, q1.2)
set_option maxHeartbeats 4000000 in
set_option maxRecDepth 20000 in
theorem eb_X12_kind_22 {xs : Nat → Int32} {N d : Nat} {nx : ci_N} {l0 : Nat} (hd : 1 ≤ d) {h : ci_H} {r : Int32 × ci_H} (H : b_X12_kind_22 l0 h = some r) : Ev xs N (d + 1) 211 22 [.ref l0, ci_junk, ci_junk, ci_junk, ci_junk] [] h nx (oI r nx) := by
  unfold b_X12_kind_22 at H
  refine ev_go hc_X12_kind (k := 1) (pc' := 23) (L' := [.ref l0, ci_junk, ci_junk, ci_junk, ci_junk]) (S' := [.ref l0]) rfl ?_
  obtain ⟨q1, eq1, H⟩ := Option.bind_eq_some_iff.mp H
  refine ev_call (vs := [.ref l0]) (rest := []) (q := q_X12_lost) hc_X12_kind (Or.inr rfl) (fe_X12_kind (pc := 23) rfl) ms_172 rfl rfl (Nat.le_of_ble_eq_true rfl) (kO_recv (K_X12_lost eq1)) (E_X12_lost eq1 (by omega)) rfl ?_
  show Ev xs N (d + 1) 211 26 [.ref l0, ci_junk, ci_junk, ci_junk, ci_junk] [.int q1.1] q1.2 nx _
  obtain rfl := Option.some.inj H
  exact ev_8 hc_X12_kind (fe_X12_kind (pc := 26) rfl) rfl
def b_X12_kind_93 (r_57 : Int32 → Int32 → ci_H → Option (Int32 × ci_H)) (l0 : Nat) (l1 : Int32) (l4 : Int32) (s0 : Int32) (s1 : Int32)  (h : ci_H) : Option (Int32 × ci_H) := r_57 (s0 ||| s1) (l4 + 1) h
set_option maxHeartbeats 4000000 in
set_option maxRecDepth 20000 in
theorem eb_X12_kind_93 {xs : Nat → Int32} {N d : Nat} {nx : ci_N} {r_57 : Int32 → Int32 → ci_H → Option (Int32 × ci_H)} {l0 : Nat} {l1 : Int32} {l4 : Int32} {s0 : Int32} {s1 : Int32} (hd : 1 ≤ d) (h_57 : ∀ (l3 : Int32) (l4 : Int32) (h : ci_H) (r : Int32 × ci_H), r_57 l3 l4 h = some r → Ev xs N (d + 1) 211 57 [.ref l0, .int l1, ci_junk, .int l3, .int l4] [] h nx (oI r nx)) {h : ci_H} {r : Int32 × ci_H} (H : b_X12_kind_93 r_57 l0 l1 l4 s0 s1 h = some r) : Ev xs N (d + 1) 211 93 [.ref l0, .int l1, ci_junk, ci_junk, .int l4] [.int s1, .int s0] h nx (oI r nx) := by
  unfold b_X12_kind_93 at H
  refine ev_go hc_X12_kind (k := 4) (pc' := 57) (L' := [.ref l0, .int l1, ci_junk, .int (s0 ||| s1), .int (l4 + 1)]) (S' := []) rfl ?_
  exact Ev.weak (ci_le_c (Or.inr rfl) (ci_le_c (Or.inr rfl) (ci_le_c (Or.inl rfl) (ci_le_c (Or.inr rfl) (ci_le_c (Or.inr rfl) (ci_le_n)))))) (h_57 _ _ _ _ H)
def b_X12_kind_57 (l0 : Nat) (l1 : Int32) : Nat → Int32 → Int32 → ci_H → Option (Int32 × ci_H)
  | 0, _, _, _ => none
  | n + 1, l3, l4, h => (gI h l0 12 2).bind fun v1 => if v1 ≤ l4 then (some (l3, h)) else ((gR h l0 12 0).bind fun v3 => (rI h v3 l4).bind fun v4 => (F_X12_kindsOf l0 v4 h).bind fun q5 => (F_X12_has q5.1 l1 q5.2).bind fun q6 => if q6.1 = 0 then (b_X12_kind_93 (fun x0 x1 x2 => b_X12_kind_57 l0 l1 n x0 x1 x2) l0 l1 l4 l3 0 q6.2) else (b_X12_kind_93 (fun x0 x1 x2 => b_X12_kind_57 l0 l1 n x0 x1 x2) l0 l1 l4 l3 ((1 : Int32) <<< (l4 &&& 31)) q6.2))
set_option maxHeartbeats 4000000 in
set_option maxRecDepth 20000 in
theorem eb_X12_kind_57 {xs : Nat → Int32} {N d : Nat} {nx : ci_N} {l0 : Nat} {l1 : Int32} (hd : 1 ≤ d) : ∀ (n : Nat) (l3 : Int32) (l4 : Int32) (h : ci_H) (r : Int32 × ci_H), b_X12_kind_57 l0 l1 n l3 l4 h = some r → Ev xs N (d + 1) 211 57 [.ref l0, .int l1, ci_junk, .int l3, .int l4] [] h nx (oI r nx) := by
  intro n
  induction n with
  | zero => intro l3 l4 h r H; unfold b_X12_kind_57 at H; cases H
  | succ n ih =>
    intro l3 l4 h r H
    unfold b_X12_kind_57 at H
    refine ev_go hc_X12_kind (k := 2) (pc' := 60) (L' := [.ref l0, .int l1, ci_junk, .int l3, .int l4]) (S' := [.ref l0, .int l4]) rfl ?_
    obtain ⟨v1, ev1, H⟩ := Option.bind_eq_some_iff.mp H
    refine ev_4 hc_X12_kind (fe_X12_kind (pc := 60) rfl) (gI_gf ev1) ?_
    by_cases c2 : v1 ≤ l4
    · rw [if_pos c2] at H
      refine ev_bt hc_X12_kind (fe_X12_kind (pc := 63) rfl) rfl c2 ?_
      refine ev_go hc_X12_kind (k := 1) (pc' := 102) (L' := [.ref l0, .int l1, ci_junk, .int l3, .int l4]) (S' := [.int l3]) rfl ?_
      obtain rfl := Option.some.inj H
      exact ev_8 hc_X12_kind (fe_X12_kind (pc := 102) rfl) rfl
    · rw [if_neg c2] at H
      refine ev_bf hc_X12_kind (fe_X12_kind (pc := 63) rfl) rfl c2 ?_
      refine ev_go hc_X12_kind (k := 3) (pc' := 69) (L' := [.ref l0, .int l1, ci_junk, .int l3, .int l4]) (S' := [.ref l0, .ref l0, .int l3]) rfl ?_
      obtain ⟨v3, ev3, H⟩ := Option.bind_eq_some_iff.mp H
      refine ev_4 hc_X12_kind (fe_X12_kind (pc := 69) rfl) (gR_gf ev3) ?_
      refine ev_go hc_X12_kind (k := 1) (pc' := 74) (L' := [.ref l0, .int l1, ci_junk, .int l3, .int l4]) (S' := [.int l4, .ref v3, .ref l0, .int l3]) rfl ?_
      obtain ⟨v4, ev4, H⟩ := Option.bind_eq_some_iff.mp H
      refine ev_4 hc_X12_kind (fe_X12_kind (pc := 74) rfl) (rI_al ev4) ?_
      obtain ⟨q5, eq5, H⟩ := Option.bind_eq_some_iff.mp H
      refine ev_call (vs := [.ref l0, .int v4]) (rest := [.int l3]) (q := q_X12_kindsOf) hc_X12_kind (Or.inr rfl) (fe_X12_kind (pc := 75) rfl) ms_201 rfl rfl (Nat.le_of_ble_eq_true rfl) (kO_recv (K_X12_kindsOf eq5)) (E_X12_kindsOf eq5 (by omega)) rfl ?_
      show Ev xs N (d + 1) 211 78 [.ref l0, .int l1, ci_junk, .int l3, .int l4] [.int q5.1, .int l3] q5.2 nx _
      refine ev_go hc_X12_kind (k := 1) (pc' := 79) (L' := [.ref l0, .int l1, ci_junk, .int l3, .int l4]) (S' := [.int l1, .int q5.1, .int l3]) rfl ?_
      obtain ⟨q6, eq6, H⟩ := Option.bind_eq_some_iff.mp H
      refine ev_call (vs := [.int q5.1, .int l1]) (rest := [.int l3]) (q := q_X12_has) hc_X12_kind (Or.inl rfl) (fe_X12_kind (pc := 79) rfl) ms_171 rfl rfl (Nat.le_of_ble_eq_true rfl) rfl (E_X12_has eq6 (by omega)) rfl ?_
      show Ev xs N (d + 1) 211 82 [.ref l0, .int l1, ci_junk, .int l3, .int l4] [.int q6.1, .int l3] q6.2 nx _
      by_cases c7 : q6.1 = 0
      · rw [if_pos c7] at H
        refine ev_bt hc_X12_kind (fe_X12_kind (pc := 82) rfl) rfl c7 ?_
        refine ev_go hc_X12_kind (k := 1) (pc' := 93) (L' := [.ref l0, .int l1, ci_junk, .int l3, .int l4]) (S' := [.int 0, .int l3]) rfl ?_
        exact Ev.weak (ci_le_c (Or.inr rfl) (ci_le_c (Or.inr rfl) (ci_le_c (Or.inl rfl) (ci_le_c (Or.inl rfl) (ci_le_c (Or.inr rfl) (ci_le_n)))))) (eb_X12_kind_93 hd ih H)
      · rw [if_neg c7] at H
        refine ev_bf hc_X12_kind (fe_X12_kind (pc := 82) rfl) rfl c7 ?_
        refine ev_go hc_X12_kind (k := 4) (pc' := 93) (L' := [.ref l0, .int l1, ci_junk, .int l3, .int l4]) (S' := [.int ((1 : Int32) <<< (l4 &&& 31)), .int l3]) rfl ?_
        exact Ev.weak (ci_le_c (Or.inr rfl) (ci_le_c (Or.inr rfl) (ci_le_c (Or.inl rfl) (ci_le_c (Or.inl rfl) (ci_le_c (Or.inr rfl) (ci_le_n)))))) (eb_X12_kind_93 hd ih H)
def F_X12_kind (a0 : Nat) (a1 : Int32) (a2 : Int32) (h : ci_H) : Option (Int32 × ci_H) := if kO h a0 = some 12 then ((pF h a0 12 11 (.int 0)).bind fun h1 => (F_X12_isKind a0 a1 h1).bind fun q2 => if q2.1 = 0 then (b_X12_kind_22 a0 q2.2) else ((F_X12_in a2 0 2 q2.2).bind fun q4 => if q4.1 = 0 then (b_X12_kind_22 a0 q4.2) else (if 2 ≤ a2 then (b_X12_kind_57 a0 a1 bigN 0 0 q4.2) else (if a2 = 0 then ((gR q4.2 a0 12 4).bind fun v8 => (rI q4.2 v8 a1).bind fun v9 => some (v9, q4.2)) else ((gR q4.2 a0 12 5).bind fun v10 => (rI q4.2 v10 a1).bind fun v11 => some (v11, q4.2)))))) else none
theorem K_X12_kind {a0 : Nat} {a1 : Int32} {a2 : Int32} {h : ci_H} {r : Int32 × ci_H} (H : F_X12_kind a0 a1 a2 h = some r) : kO h a0 = some 12 := by
  unfold F_X12_kind at H
  by_cases c : kO h a0 = some 12
  · exact c
  · rw [if_neg c] at H; cases H
set_option maxHeartbeats 4000000 in
set_option maxRecDepth 20000 in
theorem E_X12_kind {xs : Nat → Int32} {N d : Nat} {nx : ci_N} {a0 : Nat} {a1 : Int32} {a2 : Int32} {h : ci_H} {r : Int32 × ci_H} (H : F_X12_kind a0 a1 a2 h = some r) (hd : 2 ≤ d) : Ev xs N d 211 0 (ci_entry [.ref a0, .int a1, .int a2] 5) [] h nx (oI r nx) := by
  obtain ⟨d, rfl⟩ : ∃ d2, d = d2 + 1 := ⟨d - 1, by omega⟩
  have hd : 1 ≤ d := by omega
  unfold F_X12_kind at H
  by_cases ck : kO h a0 = some 12
  · rw [if_pos ck] at H
    show Ev xs N (d + 1) 211 0 [.ref a0, .int a1, .int a2, ci_junk, ci_junk] [] h nx _
    refine ev_go hc_X12_kind (k := 2) (pc' := 2) (L' := [.ref a0, .int a1, .int a2, ci_junk, ci_junk]) (S' := [.int 0, .ref a0]) rfl ?_
    obtain ⟨h1, eh1, H⟩ := Option.bind_eq_some_iff.mp H
    refine ev_5 hc_X12_kind (fe_X12_kind (pc := 2) rfl) (pF_pf eh1) ?_
    refine ev_go hc_X12_kind (k := 2) (pc' := 7) (L' := [.ref a0, .int a1, .int a2, ci_junk, ci_junk]) (S' := [.int a1, .ref a0]) rfl ?_
    obtain ⟨q2, eq2, H⟩ := Option.bind_eq_some_iff.mp H
    refine ev_call (vs := [.ref a0, .int a1]) (rest := []) (q := q_X12_isKind) hc_X12_kind (Or.inr rfl) (fe_X12_kind (pc := 7) rfl) ms_176 rfl rfl (Nat.le_of_ble_eq_true rfl) (kO_recv (K_X12_isKind eq2)) (E_X12_isKind eq2 (by omega)) rfl ?_
    show Ev xs N (d + 1) 211 10 [.ref a0, .int a1, .int a2, ci_junk, ci_junk] [.int q2.1] q2.2 nx _
    by_cases c3 : q2.1 = 0
    · rw [if_pos c3] at H
      refine ev_bt hc_X12_kind (fe_X12_kind (pc := 10) rfl) rfl c3 ?_
      exact Ev.weak (ci_le_c (Or.inr rfl) (ci_le_c (Or.inl rfl) (ci_le_c (Or.inl rfl) (ci_le_c (Or.inl rfl) (ci_le_c (Or.inl rfl) (ci_le_n)))))) (eb_X12_kind_22 hd H)
    · rw [if_neg c3] at H
      refine ev_bf hc_X12_kind (fe_X12_kind (pc := 10) rfl) rfl c3 ?_
      refine ev_go hc_X12_kind (k := 3) (pc' := 16) (L' := [.ref a0, .int a1, .int a2, ci_junk, ci_junk]) (S' := [.int 2, .int 0, .int a2]) rfl ?_
      obtain ⟨q4, eq4, H⟩ := Option.bind_eq_some_iff.mp H
      refine ev_call (vs := [.int a2, .int 0, .int 2]) (rest := []) (q := q_X12_in) hc_X12_kind (Or.inl rfl) (fe_X12_kind (pc := 16) rfl) ms_170 rfl rfl (Nat.le_of_ble_eq_true rfl) rfl (E_X12_in eq4 (by omega)) rfl ?_
      show Ev xs N (d + 1) 211 19 [.ref a0, .int a1, .int a2, ci_junk, ci_junk] [.int q4.1] q4.2 nx _
      by_cases c5 : q4.1 = 0
      · rw [if_pos c5] at H
        refine ev_bt hc_X12_kind (fe_X12_kind (pc := 19) rfl) rfl c5 ?_
        exact Ev.weak (ci_le_c (Or.inr rfl) (ci_le_c (Or.inl rfl) (ci_le_c (Or.inl rfl) (ci_le_c (Or.inl rfl) (ci_le_c (Or.inl rfl) (ci_le_n)))))) (eb_X12_kind_22 hd H)
      · rw [if_neg c5] at H
        refine ev_bf hc_X12_kind (fe_X12_kind (pc := 19) rfl) rfl c5 ?_
        refine ev_go hc_X12_kind (k := 2) (pc' := 29) (L' := [.ref a0, .int a1, .int a2, ci_junk, ci_junk]) (S' := [.int 2, .int a2]) rfl ?_
        by_cases c6 : 2 ≤ a2
        · rw [if_pos c6] at H
          refine ev_bt hc_X12_kind (fe_X12_kind (pc := 29) rfl) rfl c6 ?_
          refine ev_go hc_X12_kind (k := 4) (pc' := 57) (L' := [.ref a0, .int a1, .int a2, .int 0, .int 0]) (S' := []) rfl ?_
          exact Ev.weak (ci_le_c (Or.inr rfl) (ci_le_c (Or.inr rfl) (ci_le_c (Or.inl rfl) (ci_le_c (Or.inr rfl) (ci_le_c (Or.inr rfl) (ci_le_n)))))) (eb_X12_kind_57 hd bigN _ _ _ _ H)
        · rw [if_neg c6] at H
          refine ev_bf hc_X12_kind (fe_X12_kind (pc := 29) rfl) rfl c6 ?_
          refine ev_go hc_X12_kind (k := 1) (pc' := 33) (L' := [.ref a0, .int a1, .int a2, ci_junk, ci_junk]) (S' := [.int a2]) rfl ?_
          by_cases c7 : a2 = 0
          · rw [if_pos c7] at H
            refine ev_bt hc_X12_kind (fe_X12_kind (pc := 33) rfl) rfl c7 ?_
            refine ev_go hc_X12_kind (k := 1) (pc' := 37) (L' := [.ref a0, .int a1, .int a2, ci_junk, ci_junk]) (S' := [.ref a0]) rfl ?_
            obtain ⟨v8, ev8, H⟩ := Option.bind_eq_some_iff.mp H
            refine ev_4 hc_X12_kind (fe_X12_kind (pc := 37) rfl) (gR_gf ev8) ?_
            refine ev_go hc_X12_kind (k := 1) (pc' := 41) (L' := [.ref a0, .int a1, .int a2, ci_junk, ci_junk]) (S' := [.int a1, .ref v8]) rfl ?_
            obtain ⟨v9, ev9, H⟩ := Option.bind_eq_some_iff.mp H
            refine ev_4 hc_X12_kind (fe_X12_kind (pc := 41) rfl) (rI_al ev9) ?_
            refine ev_go hc_X12_kind (k := 1) (pc' := 51) (L' := [.ref a0, .int a1, .int a2, ci_junk, ci_junk]) (S' := [.int v9]) rfl ?_
            obtain rfl := Option.some.inj H
            exact ev_8 hc_X12_kind (fe_X12_kind (pc := 51) rfl) rfl
          · rw [if_neg c7] at H
            refine ev_bf hc_X12_kind (fe_X12_kind (pc := 33) rfl) rfl c7 ?_
            refine ev_go hc_X12_kind (k := 1) (pc' := 46) (L' := [.ref a0, .int a1, .int a2, ci_junk, ci_junk]) (S' := [.ref a0]) rfl ?_
            obtain ⟨v10, ev10, H⟩ := Option.bind_eq_some_iff.mp H
            refine ev_4 hc_X12_kind (fe_X12_kind (pc := 46) rfl) (gR_gf ev10) ?_
            refine ev_go hc_X12_kind (k := 1) (pc' := 50) (L' := [.ref a0, .int a1, .int a2, ci_junk, ci_junk]) (S' := [.int a1, .ref v10]) rfl ?_
            obtain ⟨v11, ev11, H⟩ := Option.bind_eq_some_iff.mp H
            refine ev_4 hc_X12_kind (fe_X12_kind (pc := 50) rfl) (rI_al ev11) ?_
            obtain rfl := Option.some.inj H
            exact ev_8 hc_X12_kind (fe_X12_kind (pc := 51) rfl) rfl
  · rw [if_neg ck] at H; cases H
theorem hc_X12_house : ci_code (ci_Ms 212) = k_X12_house := rfl
theorem fe_X12_house {pc : Nat} {w : Option ci_I} (h : (k_X12_house)[pc]? = some w) : (k_X12_house)[pc]? = some w := h
def b_X12_house_22 (l0 : Nat)  (h : ci_H) : Option (Int32 × ci_H) := (F_X12_lost l0 h).bind fun q1 => some (q1.1, q1.2)
set_option maxHeartbeats 4000000 in
set_option maxRecDepth 20000 in
theorem eb_X12_house_22 {xs : Nat → Int32} {N d : Nat} {nx : ci_N} {l0 : Nat} (hd : 3 ≤ d) {h : ci_H} {r : Int32 × ci_H} (H : b_X12_house_22 l0 h = some r) : Ev xs N (d + 1) 212 22 [.ref l0, ci_junk, ci_junk] [] h nx (oI r nx) := by
  unfold b_X12_house_22 at H
  refine ev_go hc_X12_house (k := 1) (pc' := 23) (L' := [.ref l0, ci_junk, ci_junk]) (S' := [.ref l0]) rfl ?_
  obtain ⟨q1, eq1, H⟩ := Option.bind_eq_some_iff.mp H
  refine ev_call (vs := [.ref l0]) (rest := []) (q := q_X12_lost) hc_X12_house (Or.inr rfl) (fe_X12_house (pc := 23) rfl) ms_172 rfl rfl (Nat.le_of_ble_eq_true rfl) (kO_recv (K_X12_lost eq1)) (E_X12_lost eq1 (by omega)) rfl ?_
  show Ev xs N (d + 1) 212 26 [.ref l0, ci_junk, ci_junk] [.int q1.1] q1.2 nx _
  obtain rfl := Option.some.inj H
  exact ev_8 hc_X12_house (fe_X12_house (pc := 26) rfl) rfl
def F_X12_house (a0 : Nat) (a1 : Int32) (a2 : Int32) (h : ci_H) : Option (Int32 × ci_H) := if kO h a0 = some 12 then ((pF h a0 12 11 (.int 0)).bind fun h1 => (F_X12_isHouse a0 a1 h1).bind fun q2 => if q2.1 = 0 then (b_X12_house_22 a0 q2.2) else ((F_X12_in a2 0 3 q2.2).bind fun q4 => if q4.1 = 0 then (b_X12_house_22 a0 q4.2) else (if a2 = 0 then ((gR q4.2 a0 12 0).bind fun v7 => (F_X12_ownedBy a0 v7 a1 q4.2).bind fun q8 => some (q8.1, q8.2)) else (if a2 = 1 then ((gR q4.2 a0 12 0).bind fun v10 => (F_X12_keptBy a0 v10 a1 q4.2).bind fun q11 => some (q11.1, q11.2)) else (if a2 = 2 then ((gR q4.2 a0 12 0).bind fun v13 => (rI q4.2 v13 (36 + a1)).bind fun v14 => some (v14, q4.2)) else ((gR q4.2 a0 12 0).bind fun v15 => (F_X12_breaks a0 v15 a1 q4.2).bind fun q16 => some (q16.1, q16.2))))))) else none
theorem K_X12_house {a0 : Nat} {a1 : Int32} {a2 : Int32} {h : ci_H} {r : Int32 × ci_H} (H : F_X12_house a0 a1 a2 h = some r) : kO h a0 = some 12 := by
  unfold F_X12_house at H
  by_cases c : kO h a0 = some 12
  · exact c
  · rw [if_neg c] at H; cases H
set_option maxHeartbeats 4000000 in
set_option maxRecDepth 20000 in
theorem E_X12_house {xs : Nat → Int32} {N d : Nat} {nx : ci_N} {a0 : Nat} {a1 : Int32} {a2 : Int32} {h : ci_H} {r : Int32 × ci_H} (H : F_X12_house a0 a1 a2 h = some r) (hd : 4 ≤ d) : Ev xs N d 212 0 (ci_entry [.ref a0, .int a1, .int a2] 3) [] h nx (oI r nx) := by
  obtain ⟨d, rfl⟩ : ∃ d2, d = d2 + 1 := ⟨d - 1, by omega⟩
  have hd : 3 ≤ d := by omega
  unfold F_X12_house at H
  by_cases ck : kO h a0 = some 12
  · rw [if_pos ck] at H
    show Ev xs N (d + 1) 212 0 [.ref a0, .int a1, .int a2] [] h nx _
    refine ev_go hc_X12_house (k := 2) (pc' := 2) (L' := [.ref a0, .int a1, .int a2]) (S' := [.int 0, .ref a0]) rfl ?_
    obtain ⟨h1, eh1, H⟩ := Option.bind_eq_some_iff.mp H
    refine ev_5 hc_X12_house (fe_X12_house (pc := 2) rfl) (pF_pf eh1) ?_
    refine ev_go hc_X12_house (k := 2) (pc' := 7) (L' := [.ref a0, .int a1, .int a2]) (S' := [.int a1, .ref a0]) rfl ?_
    obtain ⟨q2, eq2, H⟩ := Option.bind_eq_some_iff.mp H
    refine ev_call (vs := [.ref a0, .int a1]) (rest := []) (q := q_X12_isHouse) hc_X12_house (Or.inr rfl) (fe_X12_house (pc := 7) rfl) ms_175 rfl rfl (Nat.le_of_ble_eq_true rfl) (kO_recv (K_X12_isHouse eq2)) (E_X12_isHouse eq2 (by omega)) rfl ?_
    show Ev xs N (d + 1) 212 10 [.ref a0, .int a1, .int a2] [.int q2.1] q2.2 nx _
    by_cases c3 : q2.1 = 0
    · rw [if_pos c3] at H
      refine ev_bt hc_X12_house (fe_X12_house (pc := 10) rfl) rfl c3 ?_
      exact Ev.weak (ci_le_c (Or.inr rfl) (ci_le_c (Or.inl rfl) (ci_le_c (Or.inl rfl) (ci_le_n)))) (eb_X12_house_22 hd H)
    · rw [if_neg c3] at H
      refine ev_bf hc_X12_house (fe_X12_house (pc := 10) rfl) rfl c3 ?_
      refine ev_go hc_X12_house (k := 3) (pc' := 16) (L' := [.ref a0, .int a1, .int a2]) (S' := [.int 3, .int 0, .int a2]) rfl ?_
      obtain ⟨q4, eq4, H⟩ := Option.bind_eq_some_iff.mp H
      refine ev_call (vs := [.int a2, .int 0, .int 3]) (rest := []) (q := q_X12_in) hc_X12_house (Or.inl rfl) (fe_X12_house (pc := 16) rfl) ms_170 rfl rfl (Nat.le_of_ble_eq_true rfl) rfl (E_X12_in eq4 (by omega)) rfl ?_
      show Ev xs N (d + 1) 212 19 [.ref a0, .int a1, .int a2] [.int q4.1] q4.2 nx _
      by_cases c5 : q4.1 = 0
      · rw [if_pos c5] at H
        refine ev_bt hc_X12_house (fe_X12_house (pc := 19) rfl) rfl c5 ?_
        exact Ev.weak (ci_le_c (Or.inr rfl) (ci_le_c (Or.inl rfl) (ci_le_c (Or.inl rfl) (ci_le_n)))) (eb_X12_house_22 hd H)
      · rw [if_neg c5] at H
        refine ev_bf hc_X12_house (fe_X12_house (pc := 19) rfl) rfl c5 ?_
        refine ev_go hc_X12_house (k := 1) (pc' := 28) (L' := [.ref a0, .int a1, .int a2]) (S' := [.int a2]) rfl ?_
        by_cases c6 : a2 = 0
        · rw [if_pos c6] at H
          refine ev_bt hc_X12_house (fe_X12_house (pc := 28) rfl) rfl c6 ?_
          refine ev_go hc_X12_house (k := 2) (pc' := 33) (L' := [.ref a0, .int a1, .int a2]) (S' := [.ref a0, .ref a0]) rfl ?_
          obtain ⟨v7, ev7, H⟩ := Option.bind_eq_some_iff.mp H
          refine ev_4 hc_X12_house (fe_X12_house (pc := 33) rfl) (gR_gf ev7) ?_
          refine ev_go hc_X12_house (k := 1) (pc' := 37) (L' := [.ref a0, .int a1, .int a2]) (S' := [.int a1, .ref v7, .ref a0]) rfl ?_
          obtain ⟨q8, eq8, H⟩ := Option.bind_eq_some_iff.mp H
          refine ev_call (vs := [.ref a0, .ref v7, .int a1]) (rest := []) (q := q_X12_ownedBy) hc_X12_house (Or.inr rfl) (fe_X12_house (pc := 37) rfl) ms_203 rfl rfl (Nat.le_of_ble_eq_true rfl) (kO_recv (K_X12_ownedBy eq8)) (E_X12_ownedBy eq8 (by omega)) rfl ?_
          show Ev xs N (d + 1) 212 40 [.ref a0, .int a1, .int a2] [.int q8.1] q8.2 nx _
          refine ev_go hc_X12_house (k := 1) (pc' := 86) (L' := [.ref a0, .int a1, .int a2]) (S' := [.int q8.1]) rfl ?_
          obtain rfl := Option.some.inj H
          exact ev_8 hc_X12_house (fe_X12_house (pc := 86) rfl) rfl
        · rw [if_neg c6] at H
          refine ev_bf hc_X12_house (fe_X12_house (pc := 28) rfl) rfl c6 ?_
          refine ev_go hc_X12_house (k := 2) (pc' := 45) (L' := [.ref a0, .int a1, .int a2]) (S' := [.int 1, .int a2]) rfl ?_
          by_cases c9 : a2 = 1
          · rw [if_pos c9] at H
            refine ev_bt hc_X12_house (fe_X12_house (pc := 45) rfl) rfl c9 ?_
            refine ev_go hc_X12_house (k := 2) (pc' := 50) (L' := [.ref a0, .int a1, .int a2]) (S' := [.ref a0, .ref a0]) rfl ?_
            obtain ⟨v10, ev10, H⟩ := Option.bind_eq_some_iff.mp H
            refine ev_4 hc_X12_house (fe_X12_house (pc := 50) rfl) (gR_gf ev10) ?_
            refine ev_go hc_X12_house (k := 1) (pc' := 54) (L' := [.ref a0, .int a1, .int a2]) (S' := [.int a1, .ref v10, .ref a0]) rfl ?_
            obtain ⟨q11, eq11, H⟩ := Option.bind_eq_some_iff.mp H
            refine ev_call (vs := [.ref a0, .ref v10, .int a1]) (rest := []) (q := q_X12_keptBy) hc_X12_house (Or.inr rfl) (fe_X12_house (pc := 54) rfl) ms_202 rfl rfl (Nat.le_of_ble_eq_true rfl) (kO_recv (K_X12_keptBy eq11)) (E_X12_keptBy eq11 (by omega)) rfl ?_
            show Ev xs N (d + 1) 212 57 [.ref a0, .int a1, .int a2] [.int q11.1] q11.2 nx _
            refine ev_go hc_X12_house (k := 1) (pc' := 86) (L' := [.ref a0, .int a1, .int a2]) (S' := [.int q11.1]) rfl ?_
            obtain rfl := Option.some.inj H
            exact ev_8 hc_X12_house (fe_X12_house (pc := 86) rfl) rfl
          · rw [if_neg c9] at H
            refine ev_bf hc_X12_house (fe_X12_house (pc := 45) rfl) rfl c9 ?_
            refine ev_go hc_X12_house (k := 2) (pc' := 62) (L' := [.ref a0, .int a1, .int a2]) (S' := [.int 2, .int a2]) rfl ?_
            by_cases c12 : a2 = 2
            · rw [if_pos c12] at H
              refine ev_bt hc_X12_house (fe_X12_house (pc := 62) rfl) rfl c12 ?_
              refine ev_go hc_X12_house (k := 1) (pc' := 66) (L' := [.ref a0, .int a1, .int a2]) (S' := [.ref a0]) rfl ?_
              obtain ⟨v13, ev13, H⟩ := Option.bind_eq_some_iff.mp H
              refine ev_4 hc_X12_house (fe_X12_house (pc := 66) rfl) (gR_gf ev13) ?_
              refine ev_go hc_X12_house (k := 3) (pc' := 73) (L' := [.ref a0, .int a1, .int a2]) (S' := [.int (36 + a1), .ref v13]) rfl ?_
              obtain ⟨v14, ev14, H⟩ := Option.bind_eq_some_iff.mp H
              refine ev_4 hc_X12_house (fe_X12_house (pc := 73) rfl) (rI_al ev14) ?_
              refine ev_go hc_X12_house (k := 1) (pc' := 86) (L' := [.ref a0, .int a1, .int a2]) (S' := [.int v14]) rfl ?_
              obtain rfl := Option.some.inj H
              exact ev_8 hc_X12_house (fe_X12_house (pc := 86) rfl) rfl
            · rw [if_neg c12] at H
              refine ev_bf hc_X12_house (fe_X12_house (pc := 62) rfl) rfl c12 ?_
              refine ev_go hc_X12_house (k := 2) (pc' := 79) (L' := [.ref a0, .int a1, .int a2]) (S' := [.ref a0, .ref a0]) rfl ?_
              obtain ⟨v15, ev15, H⟩ := Option.bind_eq_some_iff.mp H
              refine ev_4 hc_X12_house (fe_X12_house (pc := 79) rfl) (gR_gf ev15) ?_
              refine ev_go hc_X12_house (k := 1) (pc' := 83) (L' := [.ref a0, .int a1, .int a2]) (S' := [.int a1, .ref v15, .ref a0]) rfl ?_
              obtain ⟨q16, eq16, H⟩ := Option.bind_eq_some_iff.mp H
              refine ev_call (vs := [.ref a0, .ref v15, .int a1]) (rest := []) (q := q_X12_breaks) hc_X12_house (Or.inr rfl) (fe_X12_house (pc := 83) rfl) ms_206 rfl rfl (Nat.le_of_ble_eq_true rfl) (kO_recv (K_X12_breaks eq16)) (E_X12_breaks eq16 (by omega)) rfl ?_
              show Ev xs N (d + 1) 212 86 [.ref a0, .int a1, .int a2] [.int q16.1] q16.2 nx _
              obtain rfl := Option.some.inj H
              exact ev_8 hc_X12_house (fe_X12_house (pc := 86) rfl) rfl
  · rw [if_neg ck] at H; cases H
theorem hc_X12_worth : ci_code (ci_Ms 213) = k_X12_worth := rfl
theorem fe_X12_worth {pc : Nat} {w : Option ci_I} (h : (k_X12_worth)[pc]? = some w) : (k_X12_worth)[pc]? = some w := h
def F_X12_worth (a0 : Nat) (a1 : Int32) (a2 : Int32) (h : ci_H) : Option (Int32 × ci_H) := if kO h a0 = some 12 then ((pF h a0 12 11 (.int 0)).bind fun h1 => (F_X12_isThing a0 a1 h1).bind fun q2 => if q2.1 = 0 then (some ((-1), q2.2)) else ((F_X12_isHouse a0 a2 q2.2).bind fun q4 => if q4.1 = 0 then (some ((-1), q4.2)) else ((F_X12_worthOf a0 a1 a2 q4.2).bind fun q6 => some (q6.1, q6.2)))) else none
theorem K_X12_worth {a0 : Nat} {a1 : Int32} {a2 : Int32} {h : ci_H} {r : Int32 × ci_H} (H : F_X12_worth a0 a1 a2 h = some r) : kO h a0 = some 12 := by
  unfold F_X12_worth at H
  by_cases c : kO h a0 = some 12
  · exact c
  · rw [if_neg c] at H; cases H
set_option maxHeartbeats 4000000 in
set_option maxRecDepth 20000 in
theorem E_X12_worth {xs : Nat → Int32} {N d : Nat} {nx : ci_N} {a0 : Nat} {a1 : Int32} {a2 : Int32} {h : ci_H} {r : Int32 × ci_H} (H : F_X12_worth a0 a1 a2 h = some r) (hd : 106 ≤ d) : Ev xs N d 213 0 (ci_entry [.ref a0, .int a1, .int a2] 3) [] h nx (oI r nx) := by
  obtain ⟨d, rfl⟩ : ∃ d2, d = d2 + 1 := ⟨d - 1, by omega⟩
  have hd : 105 ≤ d := by omega
  unfold F_X12_worth at H
  by_cases ck : kO h a0 = some 12
  · rw [if_pos ck] at H
    show Ev xs N (d + 1) 213 0 [.ref a0, .int a1, .int a2] [] h nx _
    refine ev_go hc_X12_worth (k := 2) (pc' := 2) (L' := [.ref a0, .int a1, .int a2]) (S' := [.int 0, .ref a0]) rfl ?_
    obtain ⟨h1, eh1, H⟩ := Option.bind_eq_some_iff.mp H
    refine ev_5 hc_X12_worth (fe_X12_worth (pc := 2) rfl) (pF_pf eh1) ?_
    refine ev_go hc_X12_worth (k := 2) (pc' := 7) (L' := [.ref a0, .int a1, .int a2]) (S' := [.int a1, .ref a0]) rfl ?_
    obtain ⟨q2, eq2, H⟩ := Option.bind_eq_some_iff.mp H
    refine ev_call (vs := [.ref a0, .int a1]) (rest := []) (q := q_X12_isThing) hc_X12_worth (Or.inr rfl) (fe_X12_worth (pc := 7) rfl) ms_174 rfl rfl (Nat.le_of_ble_eq_true rfl) (kO_recv (K_X12_isThing eq2)) (E_X12_isThing eq2 (by omega)) rfl ?_
    show Ev xs N (d + 1) 213 10 [.ref a0, .int a1, .int a2] [.int q2.1] q2.2 nx _
    by_cases c3 : q2.1 = 0
    · rw [if_pos c3] at H
      refine ev_bt hc_X12_worth (fe_X12_worth (pc := 10) rfl) rfl c3 ?_
      refine ev_go hc_X12_worth (k := 1) (pc' := 31) (L' := [.ref a0, .int a1, .int a2]) (S' := [.int ((-1))]) rfl ?_
      obtain rfl := Option.some.inj H
      exact ev_8 hc_X12_worth (fe_X12_worth (pc := 31) rfl) rfl
    · rw [if_neg c3] at H
      refine ev_bf hc_X12_worth (fe_X12_worth (pc := 10) rfl) rfl c3 ?_
      refine ev_go hc_X12_worth (k := 2) (pc' := 15) (L' := [.ref a0, .int a1, .int a2]) (S' := [.int a2, .ref a0]) rfl ?_
      obtain ⟨q4, eq4, H⟩ := Option.bind_eq_some_iff.mp H
      refine ev_call (vs := [.ref a0, .int a2]) (rest := []) (q := q_X12_isHouse) hc_X12_worth (Or.inr rfl) (fe_X12_worth (pc := 15) rfl) ms_175 rfl rfl (Nat.le_of_ble_eq_true rfl) (kO_recv (K_X12_isHouse eq4)) (E_X12_isHouse eq4 (by omega)) rfl ?_
      show Ev xs N (d + 1) 213 18 [.ref a0, .int a1, .int a2] [.int q4.1] q4.2 nx _
      by_cases c5 : q4.1 = 0
      · rw [if_pos c5] at H
        refine ev_bt hc_X12_worth (fe_X12_worth (pc := 18) rfl) rfl c5 ?_
        refine ev_go hc_X12_worth (k := 1) (pc' := 31) (L' := [.ref a0, .int a1, .int a2]) (S' := [.int ((-1))]) rfl ?_
        obtain rfl := Option.some.inj H
        exact ev_8 hc_X12_worth (fe_X12_worth (pc := 31) rfl) rfl
      · rw [if_neg c5] at H
        refine ev_bf hc_X12_worth (fe_X12_worth (pc := 18) rfl) rfl c5 ?_
        refine ev_go hc_X12_worth (k := 3) (pc' := 24) (L' := [.ref a0, .int a1, .int a2]) (S' := [.int a2, .int a1, .ref a0]) rfl ?_
        obtain ⟨q6, eq6, H⟩ := Option.bind_eq_some_iff.mp H
        refine ev_call (vs := [.ref a0, .int a1, .int a2]) (rest := []) (q := q_X12_worthOf) hc_X12_worth (Or.inr rfl) (fe_X12_worth (pc := 24) rfl) ms_208 rfl rfl (Nat.le_of_ble_eq_true rfl) (kO_recv (K_X12_worthOf eq6)) (E_X12_worthOf eq6 (by omega)) rfl ?_
        show Ev xs N (d + 1) 213 27 [.ref a0, .int a1, .int a2] [.int q6.1] q6.2 nx _
        refine ev_go hc_X12_worth (k := 1) (pc' := 31) (L' := [.ref a0, .int a1, .int a2]) (S' := [.int q6.1]) rfl ?_
        obtain rfl := Option.some.inj H
        exact ev_8 hc_X12_worth (fe_X12_worth (pc := 31) rfl) rfl
  · rw [if_neg ck] at H; cases H
theorem hc_X12_set : ci_code (ci_Ms 214) = k_X12_set := rfl
theorem fe_X12_set {pc : Nat} {w : Option ci_I} (h : (k_X12_set)[pc]? = some w) : (k_X12_set)[pc]? = some w := h
def F_X12_set (a0 : Nat) (a1 : Int32) (h : ci_H) : Option (Int32 × ci_H) := if kO h a0 = some 12 then ((pF h a0 12 11 (.int 0)).bind fun h1 => (F_X12_in a1 1 4 h1).bind fun q2 => if q2.1 = 0 then (some ((-1), q2.2)) else ((gI q2.2 a0 12 6).bind fun v4 => (pF q2.2 a0 12 6 (.int a1)).bind fun h5 => some (v4, h5))) else none
theorem K_X12_set {a0 : Nat} {a1 : Int32} {h : ci_H} {r : Int32 × ci_H} (H : F_X12_set a0 a1 h = some r) : kO h a0 = some 12 := by
  unfold F_X12_set at H
  by_cases c : kO h a0 = some 12
  · exact c
  · rw [if_neg c] at H; cases H
set_option maxHeartbeats 4000000 in
set_option maxRecDepth 20000 in
theorem E_X12_set {xs : Nat → Int32} {N d : Nat} {nx : ci_N} {a0 : Nat} {a1 : Int32} {h : ci_H} {r : Int32 × ci_H} (H : F_X12_set a0 a1 h = some r) (hd : 1 ≤ d) : Ev xs N d 214 0 (ci_entry [.ref a0, .int a1] 3) [] h nx (oI r nx) := by
  obtain ⟨d, rfl⟩ : ∃ d2, d = d2 + 1 := ⟨d - 1, by omega⟩
  have hd : 0 ≤ d := by omega
  unfold F_X12_set at H
  by_cases ck : kO h a0 = some 12
  · rw [if_pos ck] at H
    show Ev xs N (d + 1) 214 0 [.ref a0, .int a1, ci_junk] [] h nx _
    refine ev_go hc_X12_set (k := 2) (pc' := 2) (L' := [.ref a0, .int a1, ci_junk]) (S' := [.int 0, .ref a0]) rfl ?_
    obtain ⟨h1, eh1, H⟩ := Option.bind_eq_some_iff.mp H
    refine ev_5 hc_X12_set (fe_X12_set (pc := 2) rfl) (pF_pf eh1) ?_
    refine ev_go hc_X12_set (k := 3) (pc' := 8) (L' := [.ref a0, .int a1, ci_junk]) (S' := [.int 4, .int 1, .int a1]) rfl ?_
    obtain ⟨q2, eq2, H⟩ := Option.bind_eq_some_iff.mp H
    refine ev_call (vs := [.int a1, .int 1, .int 4]) (rest := []) (q := q_X12_in) hc_X12_set (Or.inl rfl) (fe_X12_set (pc := 8) rfl) ms_170 rfl rfl (Nat.le_of_ble_eq_true rfl) rfl (E_X12_in eq2 (by omega)) rfl ?_
    show Ev xs N (d + 1) 214 11 [.ref a0, .int a1, ci_junk] [.int q2.1] q2.2 nx _
    by_cases c3 : q2.1 = 0
    · rw [if_pos c3] at H
      refine ev_bt hc_X12_set (fe_X12_set (pc := 11) rfl) rfl c3 ?_
      refine ev_go hc_X12_set (k := 1) (pc' := 15) (L' := [.ref a0, .int a1, ci_junk]) (S' := [.int ((-1))]) rfl ?_
      obtain rfl := Option.some.inj H
      exact ev_8 hc_X12_set (fe_X12_set (pc := 15) rfl) rfl
    · rw [if_neg c3] at H
      refine ev_bf hc_X12_set (fe_X12_set (pc := 11) rfl) rfl c3 ?_
      refine ev_go hc_X12_set (k := 1) (pc' := 17) (L' := [.ref a0, .int a1, ci_junk]) (S' := [.ref a0]) rfl ?_
      obtain ⟨v4, ev4, H⟩ := Option.bind_eq_some_iff.mp H
      refine ev_4 hc_X12_set (fe_X12_set (pc := 17) rfl) (gI_gf ev4) ?_
      refine ev_go hc_X12_set (k := 3) (pc' := 23) (L' := [.ref a0, .int a1, .int v4]) (S' := [.int a1, .ref a0]) rfl ?_
      obtain ⟨h5, eh5, H⟩ := Option.bind_eq_some_iff.mp H
      refine ev_5 hc_X12_set (fe_X12_set (pc := 23) rfl) (pF_pf eh5) ?_
      refine ev_go hc_X12_set (k := 1) (pc' := 27) (L' := [.ref a0, .int a1, .int v4]) (S' := [.int v4]) rfl ?_
      obtain rfl := Option.some.inj H
      exact ev_8 hc_X12_set (fe_X12_set (pc := 27) rfl) rfl
  · rw [if_neg ck] at H; cases H
theorem hc_X12_sheet : ci_code (ci_Ms 215) = k_X12_sheet := rfl
theorem fe_X12_sheet {pc : Nat} {w : Option ci_I} (h : (k_X12_sheet)[pc]? = some w) : (k_X12_sheet)[pc]? = some w := h
def b_X12_sheet_112 (r_42 : Int32 → Int32 → Int32 → ci_H → Option (Int32 × ci_H)) (l0 : Nat) (l1 : Int32) (l2 : Int32) (l4 : Int32) (l5 : Int32) (l6 : Int32) (l7 : Int32) (s0 : Nat) (s1 : Int32) (s2 : Int32)  (h : ci_H) : Option (Int32 × ci_H) := (wI h s0 s1 s2).bind fun h1 => (gR h1 l0 12 0).bind fun v2 => (rI h1 v2 (36 + l7)).bind fun v3 => r_42 (l5 + v3) (l6 + l4) (l7 + 1) h1
set_option maxHeartbeats 4000000 in
set_option maxRecDepth 20000 in
theorem eb_X12_sheet_112 {xs : Nat → Int32} {N d : Nat} {nx : ci_N} {r_42 : Int32 → Int32 → Int32 → ci_H → Option (Int32 × ci_H)} {l0 : Nat} {l1 : Int32} {l2 : Int32} {l4 : Int32} {l5 : Int32} {l6 : Int32} {l7 : Int32} {s0 : Nat} {s1 : Int32} {s2 : Int32} (hd : 0 ≤ d) (h_42 : ∀ (l5 : Int32) (l6 : Int32) (l7 : Int32) (h : ci_H) (r : Int32 × ci_H), r_42 l5 l6 l7 h = some r → Ev xs N (d + 1) 215 42 [.ref l0, .int l1, .int l2, ci_junk, .int l4, .int l5, .int l6, .int l7, ci_junk] [] h nx (oI r nx)) {h : ci_H} {r : Int32 × ci_H} (H : b_X12_sheet_112 r_42 l0 l1 l2 l4 l5 l6 l7 s0 s1 s2 h = some r) : Ev xs N (d + 1) 215 112 [.ref l0, .int l1, .int l2, ci_junk, .int l4, .int l5, .int l6, .int l7, ci_junk] [.int s2, .int s1, .ref s0] h nx (oI r nx) := by
  unfold b_X12_sheet_112 at H
  obtain ⟨h1, eh1, H⟩ := Option.bind_eq_some_iff.mp H
  refine ev_5 hc_X12_sheet (fe_X12_sheet (pc := 112) rfl) (wI_as eh1) ?_
  refine ev_go hc_X12_sheet (k := 2) (pc' := 116) (L' := [.ref l0, .int l1, .int l2, ci_junk, .int l4, .int l5, .int l6, .int l7, ci_junk]) (S' := [.ref l0, .int l5]) rfl ?_
  obtain ⟨v2, ev2, H⟩ := Option.bind_eq_some_iff.mp H
  refine ev_4 hc_X12_sheet (fe_X12_sheet (pc := 116) rfl) (gR_gf ev2) ?_
  refine ev_go hc_X12_sheet (k := 3) (pc' := 124) (L' := [.ref l0, .int l1, .int l2, ci_junk, .int l4, .int l5, .int l6, .int l7, ci_junk]) (S' := [.int (36 + l7), .ref v2, .int l5]) rfl ?_
  obtain ⟨v3, ev3, H⟩ := Option.bind_eq_some_iff.mp H
  refine ev_4 hc_X12_sheet (fe_X12_sheet (pc := 124) rfl) (rI_al ev3) ?_
  refine ev_go hc_X12_sheet (k := 8) (pc' := 42) (L' := [.ref l0, .int l1, .int l2, ci_junk, .int l4, .int (l5 + v3), .int (l6 + l4), .int (l7 + 1), ci_junk]) (S' := []) rfl ?_
  exact Ev.weak (ci_le_c (Or.inr rfl) (ci_le_c (Or.inr rfl) (ci_le_c (Or.inr rfl) (ci_le_c (Or.inl rfl) (ci_le_c (Or.inr rfl) (ci_le_c (Or.inr rfl) (ci_le_c (Or.inr rfl) (ci_le_c (Or.inr rfl) (ci_le_c (Or.inl rfl) (ci_le_n)))))))))) (h_42 _ _ _ _ _ H)
def b_X12_sheet_96 (r_42 : Int32 → Int32 → Int32 → ci_H → Option (Int32 × ci_H)) (l0 : Nat) (l1 : Int32) (l2 : Int32) (l4 : Int32) (l5 : Int32) (l6 : Int32) (l7 : Int32) (s0 : Nat) (s1 : Int32)  (h : ci_H) : Option (Int32 × ci_H) := b_X12_sheet_112 r_42 l0 l1 l2 l4 l5 l6 l7 s0 s1 0 h
set_option maxHeartbeats 4000000 in
set_option maxRecDepth 20000 in
theorem eb_X12_sheet_96 {xs : Nat → Int32} {N d : Nat} {nx : ci_N} {r_42 : Int32 → Int32 → Int32 → ci_H → Option (Int32 × ci_H)} {l0 : Nat} {l1 : Int32} {l2 : Int32} {l4 : Int32} {l5 : Int32} {l6 : Int32} {l7 : Int32} {s0 : Nat} {s1 : Int32} (hd : 0 ≤ d) (h_42 : ∀ (l5 : Int32) (l6 : Int32) (l7 : Int32) (h : ci_H) (r : Int32 × ci_H), r_42 l5 l6 l7 h = some r → Ev xs N (d + 1) 215 42 [.ref l0, .int l1, .int l2, ci_junk, .int l4, .int l5, .int l6, .int l7, ci_junk] [] h nx (oI r nx)) {h : ci_H} {r : Int32 × ci_H} (H : b_X12_sheet_96 r_42 l0 l1 l2 l4 l5 l6 l7 s0 s1 h = some r) : Ev xs N (d + 1) 215 96 [.ref l0, .int l1, .int l2, ci_junk, .int l4, .int l5, .int l6, .int l7, ci_junk] [.int s1, .ref s0] h nx (oI r nx) := by
  unfold b_X12_sheet_96 at H
  refine ev_go hc_X12_sheet (k := 2) (pc' := 112) (L' := [.ref l0, .int l1, .int l2, ci_junk, .int l4, .int l5, .int l6, .int l7, ci_junk]) (S' := [.int 0, .int s1, .ref s0]) rfl ?_
  exact Ev.weak (ci_le_c (Or.inr rfl) (ci_le_c (Or.inr rfl) (ci_le_c (Or.inr rfl) (ci_le_c (Or.inl rfl) (ci_le_c (Or.inr rfl) (ci_le_c (Or.inr rfl) (ci_le_c (Or.inr rfl) (ci_le_c (Or.inr rfl) (ci_le_c (Or.inl rfl) (ci_le_n)))))))))) (eb_X12_sheet_112 hd h_42 H)
def b_X12_sheet_74 (r_42 : Int32 → Int32 → Int32 → ci_H → Option (Int32 × ci_H)) (l0 : Nat) (l1 : Int32) (l2 : Int32) (l4 : Int32) (l5 : Int32) (l6 : Int32) (l7 : Int32) (s0 : Int32)  (h : ci_H) : Option (Int32 × ci_H) := (gR h l0 12 0).bind fun v1 => if l1 = 3 then (b_X12_sheet_96 r_42 l0 l1 l2 l4 l5 l6 l7 v1 (36 + l7) h) else (if l7 < l2 then (b_X12_sheet_112 r_42 l0 l1 l2 l4 l5 l6 l7 v1 (36 + l7) (if 0 < (if s0 < 9999 then s0 else 9999) then if s0 < 9999 then s0 else 9999 else 0) h) else (b_X12_sheet_96 r_42 l0 l1 l2 l4 l5 l6 l7 v1 (36 + l7) h))
set_option maxHeartbeats 4000000 in
set_option maxRecDepth 20000 in
theorem eb_X12_sheet_74 {xs : Nat → Int32} {N d : Nat} {nx : ci_N} {r_42 : Int32 → Int32 → Int32 → ci_H → Option (Int32 × ci_H)} {l0 : Nat} {l1 : Int32} {l2 : Int32} {l4 : Int32} {l5 : Int32} {l6 : Int32} {l7 : Int32} {s0 : Int32} (hd : 0 ≤ d) (h_42 : ∀ (l5 : Int32) (l6 : Int32) (l7 : Int32) (h : ci_H) (r : Int32 × ci_H), r_42 l5 l6 l7 h = some r → Ev xs N (d + 1) 215 42 [.ref l0, .int l1, .int l2, ci_junk, .int l4, .int l5, .int l6, .int l7, ci_junk] [] h nx (oI r nx)) {h : ci_H} {r : Int32 × ci_H} (H : b_X12_sheet_74 r_42 l0 l1 l2 l4 l5 l6 l7 s0 h = some r) : Ev xs N (d + 1) 215 74 [.ref l0, .int l1, .int l2, ci_junk, .int l4, .int l5, .int l6, .int l7, ci_junk] [.int s0] h nx (oI r nx) := by
  unfold b_X12_sheet_74 at H
  refine ev_go hc_X12_sheet (k := 2) (pc' := 77) (L' := [.ref l0, .int l1, .int l2, ci_junk, .int l4, .int l5, .int l6, .int l7, .int s0]) (S' := [.ref l0]) rfl ?_
  obtain ⟨v1, ev1, H⟩ := Option.bind_eq_some_iff.mp H
  refine ev_4 hc_X12_sheet (fe_X12_sheet (pc := 77) rfl) (gR_gf ev1) ?_
  refine ev_go hc_X12_sheet (k := 5) (pc' := 87) (L' := [.ref l0, .int l1, .int l2, ci_junk, .int l4, .int l5, .int l6, .int l7, .int s0]) (S' := [.int 3, .int l1, .int (36 + l7), .ref v1]) rfl ?_
  by_cases c2 : l1 = 3
  · rw [if_pos c2] at H
    refine ev_bt hc_X12_sheet (fe_X12_sheet (pc := 87) rfl) rfl c2 ?_
    exact Ev.weak (ci_le_c (Or.inr rfl) (ci_le_c (Or.inr rfl) (ci_le_c (Or.inr rfl) (ci_le_c (Or.inl rfl) (ci_le_c (Or.inr rfl) (ci_le_c (Or.inr rfl) (ci_le_c (Or.inr rfl) (ci_le_c (Or.inr rfl) (ci_le_c (Or.inl rfl) (ci_le_n)))))))))) (eb_X12_sheet_96 hd h_42 H)
  · rw [if_neg c2] at H
    refine ev_bf hc_X12_sheet (fe_X12_sheet (pc := 87) rfl) rfl c2 ?_
    refine ev_go hc_X12_sheet (k := 2) (pc' := 93) (L' := [.ref l0, .int l1, .int l2, ci_junk, .int l4, .int l5, .int l6, .int l7, .int s0]) (S' := [.int l2, .int l7, .int (36 + l7), .ref v1]) rfl ?_
    by_cases c3 : l7 < l2
    · rw [if_pos c3] at H
      refine ev_bt hc_X12_sheet (fe_X12_sheet (pc := 93) rfl) rfl c3 ?_
      refine ev_go hc_X12_sheet (k := 3) (pc' := 106) (L' := [.ref l0, .int l1, .int l2, ci_junk, .int l4, .int l5, .int l6, .int l7, .int s0]) (S' := [.int s0, .int 9999, .int 0, .int (36 + l7), .ref v1]) rfl ?_
      refine ev_15 hc_X12_sheet (fe_X12_sheet (pc := 106) rfl) (S' := [.int (if s0 < 9999 then s0 else 9999), .int 0, .int (36 + l7), .ref v1]) rfl ?_
      refine ev_15 hc_X12_sheet (fe_X12_sheet (pc := 109) rfl) (S' := [.int (if 0 < (if s0 < 9999 then s0 else 9999) then if s0 < 9999 then s0 else 9999 else 0), .int (36 + l7), .ref v1]) rfl ?_
      exact Ev.weak (ci_le_c (Or.inr rfl) (ci_le_c (Or.inr rfl) (ci_le_c (Or.inr rfl) (ci_le_c (Or.inl rfl) (ci_le_c (Or.inr rfl) (ci_le_c (Or.inr rfl) (ci_le_c (Or.inr rfl) (ci_le_c (Or.inr rfl) (ci_le_c (Or.inl rfl) (ci_le_n)))))))))) (eb_X12_sheet_112 hd h_42 H)
    · rw [if_neg c3] at H
      refine ev_bf hc_X12_sheet (fe_X12_sheet (pc := 93) rfl) rfl c3 ?_
      exact Ev.weak (ci_le_c (Or.inr rfl) (ci_le_c (Or.inr rfl) (ci_le_c (Or.inr rfl) (ci_le_c (Or.inl rfl) (ci_le_c (Or.inr rfl) (ci_le_c (Or.inr rfl) (ci_le_c (Or.inr rfl) (ci_le_c (Or.inr rfl) (ci_le_c (Or.inl rfl) (ci_le_n)))))))))) (eb_X12_sheet_96 hd h_42 H)
def b_X12_sheet_42 (l0 : Nat) (l1 : Int32) (l2 : Int32) (l4 : Int32) : Nat → Int32 → Int32 → Int32 → ci_H → Option (Int32 × ci_H)
  | 0, _, _, _, _ => none
  | n + 1, l5, l6, l7, h => (gI h l0 12 1).bind fun v1 => if v1 ≤ l7 then (if l1 = 3 then (some ((-3), h)) else (some (l5, h))) else (if l1 = 0 then (b_X12_sheet_74 (fun x0 x1 x2 x3 => b_X12_sheet_42 l0 l1 l2 l4 n x0 x1 x2 x3) l0 l1 l2 l4 l5 l6 l7 ((l6 : Int32).toInt8.toInt32) h) else (if l1 = 1 then (b_X12_sheet_74 (fun x0 x1 x2 x3 => b_X12_sheet_42 l0 l1 l2 l4 n x0 x1 x2 x3) l0 l1 l2 l4 l5 l6 l7 ((l6 : Int32).toInt16.toInt32) h) else (b_X12_sheet_74 (fun x0 x1 x2 x3 => b_X12_sheet_42 l0 l1 l2 l4 n x0 x1 x2 x3) l0 l1 l2 l4 l5 l6 l7 l6 h)))
set_option maxHeartbeats 4000000 in
set_option maxRecDepth 20000 in
theorem eb_X12_sheet_42 {xs : Nat → Int32} {N d : Nat} {nx : ci_N} {l0 : Nat} {l1 : Int32} {l2 : Int32} {l4 : Int32} (hd : 0 ≤ d) : ∀ (n : Nat) (l5 : Int32) (l6 : Int32) (l7 : Int32) (h : ci_H) (r : Int32 × ci_H), b_X12_sheet_42 l0 l1 l2 l4 n l5 l6 l7 h = some r → Ev xs N (d + 1) 215 42 [.ref l0, .int l1, .int l2, ci_junk, .int l4, .int l5, .int l6, .int l7, ci_junk] [] h nx (oI r nx) := by
  intro n
  induction n with
  | zero => intro l5 l6 l7 h r H; unfold b_X12_sheet_42 at H; cases H
  | succ n ih =>
    intro l5 l6 l7 h r H
    unfold b_X12_sheet_42 at H
    refine ev_go hc_X12_sheet (k := 2) (pc' := 45) (L' := [.ref l0, .int l1, .int l2, ci_junk, .int l4, .int l5, .int l6, .int l7, ci_junk]) (S' := [.ref l0, .int l7]) rfl ?_
    obtain ⟨v1, ev1, H⟩ := Option.bind_eq_some_iff.mp H
    refine ev_4 hc_X12_sheet (fe_X12_sheet (pc := 45) rfl) (gI_gf ev1) ?_
    by_cases c2 : v1 ≤ l7
    · rw [if_pos c2] at H
      refine ev_bt hc_X12_sheet (fe_X12_sheet (pc := 48) rfl) rfl c2 ?_
      refine ev_go hc_X12_sheet (k := 2) (pc' := 143) (L' := [.ref l0, .int l1, .int l2, ci_junk, .int l4, .int l5, .int l6, .int l7, ci_junk]) (S' := [.int 3, .int l1]) rfl ?_
      by_cases c3 : l1 = 3
      · rw [if_pos c3] at H
        refine ev_bt hc_X12_sheet (fe_X12_sheet (pc := 143) rfl) rfl c3 ?_
        refine ev_go hc_X12_sheet (k := 2) (pc' := 153) (L' := [.ref l0, .int l1, .int l2, ci_junk, .int l4, .int l5, .int l6, .int l7, ci_junk]) (S' := [.int ((-3))]) rfl ?_
        obtain rfl := Option.some.inj H
        exact ev_8 hc_X12_sheet (fe_X12_sheet (pc := 153) rfl) rfl
      · rw [if_neg c3] at H
        refine ev_bf hc_X12_sheet (fe_X12_sheet (pc := 143) rfl) rfl c3 ?_
        refine ev_go hc_X12_sheet (k := 1) (pc' := 153) (L' := [.ref l0, .int l1, .int l2, ci_junk, .int l4, .int l5, .int l6, .int l7, ci_junk]) (S' := [.int l5]) rfl ?_
        obtain rfl := Option.some.inj H
        exact ev_8 hc_X12_sheet (fe_X12_sheet (pc := 153) rfl) rfl
    · rw [if_neg c2] at H
      refine ev_bf hc_X12_sheet (fe_X12_sheet (pc := 48) rfl) rfl c2 ?_
      refine ev_go hc_X12_sheet (k := 1) (pc' := 52) (L' := [.ref l0, .int l1, .int l2, ci_junk, .int l4, .int l5, .int l6, .int l7, ci_junk]) (S' := [.int l1]) rfl ?_
      by_cases c4 : l1 = 0
      · rw [if_pos c4] at H
        refine ev_bt hc_X12_sheet (fe_X12_sheet (pc := 52) rfl) rfl c4 ?_
        refine ev_go hc_X12_sheet (k := 3) (pc' := 74) (L' := [.ref l0, .int l1, .int l2, ci_junk, .int l4, .int l5, .int l6, .int l7, ci_junk]) (S' := [.int ((l6 : Int32).toInt8.toInt32)]) rfl ?_
        exact Ev.weak (ci_le_c (Or.inr rfl) (ci_le_c (Or.inr rfl) (ci_le_c (Or.inr rfl) (ci_le_c (Or.inl rfl) (ci_le_c (Or.inr rfl) (ci_le_c (Or.inr rfl) (ci_le_c (Or.inr rfl) (ci_le_c (Or.inr rfl) (ci_le_c (Or.inl rfl) (ci_le_n)))))))))) (eb_X12_sheet_74 hd ih H)
      · rw [if_neg c4] at H
        refine ev_bf hc_X12_sheet (fe_X12_sheet (pc := 52) rfl) rfl c4 ?_
        refine ev_go hc_X12_sheet (k := 2) (pc' := 63) (L' := [.ref l0, .int l1, .int l2, ci_junk, .int l4, .int l5, .int l6, .int l7, ci_junk]) (S' := [.int 1, .int l1]) rfl ?_
        by_cases c5 : l1 = 1
        · rw [if_pos c5] at H
          refine ev_bt hc_X12_sheet (fe_X12_sheet (pc := 63) rfl) rfl c5 ?_
          refine ev_go hc_X12_sheet (k := 3) (pc' := 74) (L' := [.ref l0, .int l1, .int l2, ci_junk, .int l4, .int l5, .int l6, .int l7, ci_junk]) (S' := [.int ((l6 : Int32).toInt16.toInt32)]) rfl ?_
          exact Ev.weak (ci_le_c (Or.inr rfl) (ci_le_c (Or.inr rfl) (ci_le_c (Or.inr rfl) (ci_le_c (Or.inl rfl) (ci_le_c (Or.inr rfl) (ci_le_c (Or.inr rfl) (ci_le_c (Or.inr rfl) (ci_le_c (Or.inr rfl) (ci_le_c (Or.inl rfl) (ci_le_n)))))))))) (eb_X12_sheet_74 hd ih H)
        · rw [if_neg c5] at H
          refine ev_bf hc_X12_sheet (fe_X12_sheet (pc := 63) rfl) rfl c5 ?_
          refine ev_go hc_X12_sheet (k := 1) (pc' := 74) (L' := [.ref l0, .int l1, .int l2, ci_junk, .int l4, .int l5, .int l6, .int l7, ci_junk]) (S' := [.int l6]) rfl ?_
          exact Ev.weak (ci_le_c (Or.inr rfl) (ci_le_c (Or.inr rfl) (ci_le_c (Or.inr rfl) (ci_le_c (Or.inl rfl) (ci_le_c (Or.inr rfl) (ci_le_c (Or.inr rfl) (ci_le_c (Or.inr rfl) (ci_le_c (Or.inr rfl) (ci_le_c (Or.inl rfl) (ci_le_n)))))))))) (eb_X12_sheet_74 hd ih H)
def b_X12_sheet_33 (l0 : Nat) (l1 : Int32) (l2 : Int32) (l3 : Int32) (l4 : Int32)  (h : ci_H) : Option (Int32 × ci_H) := b_X12_sheet_42 l0 l1 l2 l4 bigN 0 l3 0 h
set_option maxHeartbeats 4000000 in
set_option maxRecDepth 20000 in
theorem eb_X12_sheet_33 {xs : Nat → Int32} {N d : Nat} {nx : ci_N} {l0 : Nat} {l1 : Int32} {l2 : Int32} {l3 : Int32} {l4 : Int32} (hd : 0 ≤ d) {h : ci_H} {r : Int32 × ci_H} (H : b_X12_sheet_33 l0 l1 l2 l3 l4 h = some r) : Ev xs N (d + 1) 215 33 [.ref l0, .int l1, .int l2, .int l3, .int l4, ci_junk, ci_junk, ci_junk, ci_junk] [] h nx (oI r nx) := by
  unfold b_X12_sheet_33 at H
  refine ev_go hc_X12_sheet (k := 6) (pc' := 42) (L' := [.ref l0, .int l1, .int l2, .int l3, .int l4, .int 0, .int l3, .int 0, ci_junk]) (S' := []) rfl ?_
  exact Ev.weak (ci_le_c (Or.inr rfl) (ci_le_c (Or.inr rfl) (ci_le_c (Or.inr rfl) (ci_le_c (Or.inl rfl) (ci_le_c (Or.inr rfl) (ci_le_c (Or.inr rfl) (ci_le_c (Or.inr rfl) (ci_le_c (Or.inr rfl) (ci_le_c (Or.inl rfl) (ci_le_n)))))))))) (eb_X12_sheet_42 hd bigN _ _ _ _ _ H)
def F_X12_sheet (a0 : Nat) (a1 : Int32) (a2 : Int32) (a3 : Int32) (a4 : Int32) (h : ci_H) : Option (Int32 × ci_H) := if kO h a0 = some 12 then ((pF h a0 12 11 (.int 0)).bind fun h1 => (F_X12_in a1 0 3 h1).bind fun q2 => if q2.1 = 0 then (some ((-1), q2.2)) else (if a2 ≤ 5 then (if 3 ≤ a1 then (b_X12_sheet_33 a0 a1 a2 a3 a4 q2.2) else (if 0 ≤ a2 then (b_X12_sheet_33 a0 a1 a2 a3 a4 q2.2) else (some ((-2), q2.2)))) else (some ((-1), q2.2)))) else none
theorem K_X12_sheet {a0 : Nat} {a1 : Int32} {a2 : Int32} {a3 : Int32} {a4 : Int32} {h : ci_H} {r : Int32 × ci_H} (H : F_X12_sheet a0 a1 a2 a3 a4 h = some r) : kO h a0 = some 12 := by
  unfold F_X12_sheet at H
  by_cases c : kO h a0 = some 12
  · exact c
  · rw [if_neg c] at H; cases H
set_option maxHeartbeats 4000000 in
set_option maxRecDepth 20000 in
theorem E_X12_sheet {xs : Nat → Int32} {N d : Nat} {nx : ci_N} {a0 : Nat} {a1 : Int32} {a2 : Int32} {a3 : Int32} {a4 : Int32} {h : ci_H} {r : Int32 × ci_H} (H : F_X12_sheet a0 a1 a2 a3 a4 h = some r) (hd : 1 ≤ d) : Ev xs N d 215 0 (ci_entry [.ref a0, .int a1, .int a2, .int a3, .int a4] 9) [] h nx (oI r nx) := by
  obtain ⟨d, rfl⟩ : ∃ d2, d = d2 + 1 := ⟨d - 1, by omega⟩
  have hd : 0 ≤ d := by omega
  unfold F_X12_sheet at H
  by_cases ck : kO h a0 = some 12
  · rw [if_pos ck] at H
    show Ev xs N (d + 1) 215 0 [.ref a0, .int a1, .int a2, .int a3, .int a4, ci_junk, ci_junk, ci_junk, ci_junk] [] h nx _
    refine ev_go hc_X12_sheet (k := 2) (pc' := 2) (L' := [.ref a0, .int a1, .int a2, .int a3, .int a4, ci_junk, ci_junk, ci_junk, ci_junk]) (S' := [.int 0, .ref a0]) rfl ?_
    obtain ⟨h1, eh1, H⟩ := Option.bind_eq_some_iff.mp H
    refine ev_5 hc_X12_sheet (fe_X12_sheet (pc := 2) rfl) (pF_pf eh1) ?_
    refine ev_go hc_X12_sheet (k := 3) (pc' := 8) (L' := [.ref a0, .int a1, .int a2, .int a3, .int a4, ci_junk, ci_junk, ci_junk, ci_junk]) (S' := [.int 3, .int 0, .int a1]) rfl ?_
    obtain ⟨q2, eq2, H⟩ := Option.bind_eq_some_iff.mp H
    refine ev_call (vs := [.int a1, .int 0, .int 3]) (rest := []) (q := q_X12_in) hc_X12_sheet (Or.inl rfl) (fe_X12_sheet (pc := 8) rfl) ms_170 rfl rfl (Nat.le_of_ble_eq_true rfl) rfl (E_X12_in eq2 (by omega)) rfl ?_
    show Ev xs N (d + 1) 215 11 [.ref a0, .int a1, .int a2, .int a3, .int a4, ci_junk, ci_junk, ci_junk, ci_junk] [.int q2.1] q2.2 nx _
    by_cases c3 : q2.1 = 0
    · rw [if_pos c3] at H
      refine ev_bt hc_X12_sheet (fe_X12_sheet (pc := 11) rfl) rfl c3 ?_
      refine ev_go hc_X12_sheet (k := 1) (pc' := 20) (L' := [.ref a0, .int a1, .int a2, .int a3, .int a4, ci_junk, ci_junk, ci_junk, ci_junk]) (S' := [.int ((-1))]) rfl ?_
      obtain rfl := Option.some.inj H
      exact ev_8 hc_X12_sheet (fe_X12_sheet (pc := 20) rfl) rfl
    · rw [if_neg c3] at H
      refine ev_bf hc_X12_sheet (fe_X12_sheet (pc := 11) rfl) rfl c3 ?_
      refine ev_go hc_X12_sheet (k := 2) (pc' := 16) (L' := [.ref a0, .int a1, .int a2, .int a3, .int a4, ci_junk, ci_junk, ci_junk, ci_junk]) (S' := [.int 5, .int a2]) rfl ?_
      by_cases c4 : a2 ≤ 5
      · rw [if_pos c4] at H
        refine ev_bt hc_X12_sheet (fe_X12_sheet (pc := 16) rfl) rfl c4 ?_
        refine ev_go hc_X12_sheet (k := 2) (pc' := 23) (L' := [.ref a0, .int a1, .int a2, .int a3, .int a4, ci_junk, ci_junk, ci_junk, ci_junk]) (S' := [.int 3, .int a1]) rfl ?_
        by_cases c5 : 3 ≤ a1
        · rw [if_pos c5] at H
          refine ev_bt hc_X12_sheet (fe_X12_sheet (pc := 23) rfl) rfl c5 ?_
          exact Ev.weak (ci_le_c (Or.inr rfl) (ci_le_c (Or.inr rfl) (ci_le_c (Or.inr rfl) (ci_le_c (Or.inr rfl) (ci_le_c (Or.inr rfl) (ci_le_c (Or.inl rfl) (ci_le_c (Or.inl rfl) (ci_le_c (Or.inl rfl) (ci_le_c (Or.inl rfl) (ci_le_n)))))))))) (eb_X12_sheet_33 hd H)
        · rw [if_neg c5] at H
          refine ev_bf hc_X12_sheet (fe_X12_sheet (pc := 23) rfl) rfl c5 ?_
          refine ev_go hc_X12_sheet (k := 1) (pc' := 27) (L' := [.ref a0, .int a1, .int a2, .int a3, .int a4, ci_junk, ci_junk, ci_junk, ci_junk]) (S' := [.int a2]) rfl ?_
          by_cases c6 : 0 ≤ a2
          · rw [if_pos c6] at H
            refine ev_bt hc_X12_sheet (fe_X12_sheet (pc := 27) rfl) rfl c6 ?_
            exact Ev.weak (ci_le_c (Or.inr rfl) (ci_le_c (Or.inr rfl) (ci_le_c (Or.inr rfl) (ci_le_c (Or.inr rfl) (ci_le_c (Or.inr rfl) (ci_le_c (Or.inl rfl) (ci_le_c (Or.inl rfl) (ci_le_c (Or.inl rfl) (ci_le_c (Or.inl rfl) (ci_le_n)))))))))) (eb_X12_sheet_33 hd H)
          · rw [if_neg c6] at H
            refine ev_bf hc_X12_sheet (fe_X12_sheet (pc := 27) rfl) rfl c6 ?_
            refine ev_go hc_X12_sheet (k := 1) (pc' := 32) (L' := [.ref a0, .int a1, .int a2, .int a3, .int a4, ci_junk, ci_junk, ci_junk, ci_junk]) (S' := [.int ((-2))]) rfl ?_
            obtain rfl := Option.some.inj H
            exact ev_8 hc_X12_sheet (fe_X12_sheet (pc := 32) rfl) rfl
      · rw [if_neg c4] at H
        refine ev_bf hc_X12_sheet (fe_X12_sheet (pc := 16) rfl) rfl c4 ?_
        refine ev_go hc_X12_sheet (k := 1) (pc' := 20) (L' := [.ref a0, .int a1, .int a2, .int a3, .int a4, ci_junk, ci_junk, ci_junk, ci_junk]) (S' := [.int ((-1))]) rfl ?_
        obtain rfl := Option.some.inj H
        exact ev_8 hc_X12_sheet (fe_X12_sheet (pc := 20) rfl) rfl
  · rw [if_neg ck] at H; cases H
theorem hc_X12_lay : ci_code (ci_Ms 216) = k_X12_lay := rfl
theorem fe_X12_lay {pc : Nat} {w : Option ci_I} (h : (k_X12_lay)[pc]? = some w) : (k_X12_lay)[pc]? = some w := h
def b_X12_lay_2 (l0 : Nat) (l1 : Nat) (l2 : Int32) : Nat → Int32 → ci_H → Option (ci_H)
  | 0, _, _ => none
  | n + 1, l3, h => if 42 ≤ l3 then (some h) else ((rI h l0 l3).bind fun v2 => (wI h l1 (l2 + l3) v2).bind fun h3 => b_X12_lay_2 l0 l1 l2 n (l3 + 1) h3)
set_option maxHeartbeats 4000000 in
set_option maxRecDepth 20000 in
theorem eb_X12_lay_2 {xs : Nat → Int32} {N d : Nat} {nx : ci_N} {l0 : Nat} {l1 : Nat} {l2 : Int32} : ∀ (n : Nat) (l3 : Int32) (h : ci_H) (r : ci_H), b_X12_lay_2 l0 l1 l2 n l3 h = some r → Ev xs N d 216 2 [.ref l0, .ref l1, .int l2, .int l3] [] h nx (oV r nx) := by
  intro n
  induction n with
  | zero => intro l3 h r H; unfold b_X12_lay_2 at H; cases H
  | succ n ih =>
    intro l3 h r H
    unfold b_X12_lay_2 at H
    refine ev_go hc_X12_lay (k := 2) (pc' := 5) (L' := [.ref l0, .ref l1, .int l2, .int l3]) (S' := [.int 42, .int l3]) rfl ?_
    by_cases c1 : 42 ≤ l3
    · rw [if_pos c1] at H
      refine ev_bt hc_X12_lay (fe_X12_lay (pc := 5) rfl) rfl c1 ?_
      obtain rfl := Option.some.inj H
      exact ev_8 hc_X12_lay (fe_X12_lay (pc := 22) rfl) rfl
    · rw [if_neg c1] at H
      refine ev_bf hc_X12_lay (fe_X12_lay (pc := 5) rfl) rfl c1 ?_
      refine ev_go hc_X12_lay (k := 6) (pc' := 14) (L' := [.ref l0, .ref l1, .int l2, .int l3]) (S' := [.int l3, .ref l0, .int (l2 + l3), .ref l1]) rfl ?_
      obtain ⟨v2, ev2, H⟩ := Option.bind_eq_some_iff.mp H
      refine ev_4 hc_X12_lay (fe_X12_lay (pc := 14) rfl) (rI_al ev2) ?_
      obtain ⟨h3, eh3, H⟩ := Option.bind_eq_some_iff.mp H
      refine ev_5 hc_X12_lay (fe_X12_lay (pc := 15) rfl) (wI_as eh3) ?_
      refine ev_go hc_X12_lay (k := 2) (pc' := 2) (L' := [.ref l0, .ref l1, .int l2, .int (l3 + 1)]) (S' := []) rfl ?_
      exact Ev.weak (ci_le_c (Or.inr rfl) (ci_le_c (Or.inr rfl) (ci_le_c (Or.inr rfl) (ci_le_c (Or.inr rfl) (ci_le_n))))) (ih _ _ _ H)
def F_X12_lay (a0 : Nat) (a1 : Nat) (a2 : Int32) (h : ci_H) : Option (ci_H) := b_X12_lay_2 a0 a1 a2 bigN 0 h
set_option maxHeartbeats 4000000 in
set_option maxRecDepth 20000 in
theorem E_X12_lay {xs : Nat → Int32} {N d : Nat} {nx : ci_N} {a0 : Nat} {a1 : Nat} {a2 : Int32} {h : ci_H} {r : ci_H} (H : F_X12_lay a0 a1 a2 h = some r) (hd : 0 ≤ d) : Ev xs N d 216 0 (ci_entry [.ref a0, .ref a1, .int a2] 4) [] h nx (oV r nx) := by
  unfold F_X12_lay at H
  show Ev xs N d 216 0 [.ref a0, .ref a1, .int a2, ci_junk] [] h nx _
  refine ev_go hc_X12_lay (k := 2) (pc' := 2) (L' := [.ref a0, .ref a1, .int a2, .int 0]) (S' := []) rfl ?_
  exact Ev.weak (ci_le_c (Or.inr rfl) (ci_le_c (Or.inr rfl) (ci_le_c (Or.inr rfl) (ci_le_c (Or.inr rfl) (ci_le_n))))) (eb_X12_lay_2 bigN _ _ _ H)
theorem hc_X12_remember : ci_code (ci_Ms 217) = k_X12_remember := rfl
theorem fe_X12_remember {pc : Nat} {w : Option ci_I} (h : (k_X12_remember)[pc]? = some w) : (k_X12_remember)[pc]? = some w := h
def b_X12_remember_49 (l0 : Nat) (l1 : Nat)  (h : ci_H) : Option (ci_H) := (gR h l0 12 22).bind fun v1 => (gI h l0 12 23).bind fun v2 => (F_X12_lay l1 v1 (42 * v2) h).bind fun h3 => (gI h3 l0 12 23).bind fun v4 => (pF h3 l0 12 23 (.int (v4 + 1))).bind fun h5 => some h5
set_option maxHeartbeats 4000000 in
set_option maxRecDepth 20000 in
theorem eb_X12_remember_49 {xs : Nat → Int32} {N d : Nat} {nx : ci_N} {l0 : Nat} {l1 : Nat} (hd : 0 ≤ d) {h : ci_H} {r : ci_H} (H : b_X12_remember_49 l0 l1 h = some r) : Ev xs N (d + 1) 217 49 [.ref l0, .ref l1, ci_junk] [] h nx (oV r nx) := by
  unfold b_X12_remember_49 at H
  refine ev_go hc_X12_remember (k := 2) (pc' := 51) (L' := [.ref l0, .ref l1, ci_junk]) (S' := [.ref l0, .ref l1]) rfl ?_
  obtain ⟨v1, ev1, H⟩ := Option.bind_eq_some_iff.mp H
  refine ev_4 hc_X12_remember (fe_X12_remember (pc := 51) rfl) (gR_gf ev1) ?_
  refine ev_go hc_X12_remember (k := 2) (pc' := 57) (L' := [.ref l0, .ref l1, ci_junk]) (S' := [.ref l0, .int 42, .ref v1, .ref l1]) rfl ?_
  obtain ⟨v2, ev2, H⟩ := Option.bind_eq_some_iff.mp H
  refine ev_4 hc_X12_remember (fe_X12_remember (pc := 57) rfl) (gI_gf ev2) ?_
  refine ev_go hc_X12_remember (k := 1) (pc' := 61) (L' := [.ref l0, .ref l1, ci_junk]) (S' := [.int (42 * v2), .ref v1, .ref l1]) rfl ?_
  obtain ⟨h3, eh3, H⟩ := Option.bind_eq_some_iff.mp H
  refine ev_call (vs := [.ref l1, .ref v1, .int (42 * v2)]) (rest := []) (q := q_X12_lay) hc_X12_remember (Or.inl rfl) (fe_X12_remember (pc := 61) rfl) ms_216 rfl rfl (Nat.le_of_ble_eq_true rfl) rfl (E_X12_lay eh3 (by omega)) rfl ?_
  show Ev xs N (d + 1) 217 64 [.ref l0, .ref l1, ci_junk] [] h3 nx _
  refine ev_go hc_X12_remember (k := 2) (pc' := 66) (L' := [.ref l0, .ref l1, ci_junk]) (S' := [.ref l0, .ref l0]) rfl ?_
  obtain ⟨v4, ev4, H⟩ := Option.bind_eq_some_iff.mp H
  refine ev_4 hc_X12_remember (fe_X12_remember (pc := 66) rfl) (gI_gf ev4) ?_
  refine ev_go hc_X12_remember (k := 2) (pc' := 71) (L' := [.ref l0, .ref l1, ci_junk]) (S' := [.int (v4 + 1), .ref l0]) rfl ?_
  obtain ⟨h5, eh5, H⟩ := Option.bind_eq_some_iff.mp H
  refine ev_5 hc_X12_remember (fe_X12_remember (pc := 71) rfl) (pF_pf eh5) ?_
  obtain rfl := Option.some.inj H
  exact ev_8 hc_X12_remember (fe_X12_remember (pc := 74) rfl) rfl
def b_X12_remember_11 (l0 : Nat) (l1 : Nat) : Nat → Int32 → ci_H → Option (ci_H)
  | 0, _, _ => none
  | n + 1, l2, h => if 462 ≤ l2 then ((gI h l0 12 23).bind fun v2 => (pF h l0 12 23 (.int (v2 - 1))).bind fun h3 => b_X12_remember_49 l0 l1 h3) else ((gR h l0 12 22).bind fun v4 => (gR h l0 12 22).bind fun v5 => (rI h v5 (l2 + 42)).bind fun v6 => (wI h v4 l2 v6).bind fun h7 => b_X12_remember_11 l0 l1 n (l2 + 1) h7)
set_option maxHeartbeats 4000000 in
set_option maxRecDepth 20000 in
theorem eb_X12_remember_11 {xs : Nat → Int32} {N d : Nat} {nx : ci_N} {l0 : Nat} {l1 : Nat} (hd : 0 ≤ d) : ∀ (n : Nat) (l2 : Int32) (h : ci_H) (r : ci_H), b_X12_remember_11 l0 l1 n l2 h = some r → Ev xs N (d + 1) 217 11 [.ref l0, .ref l1, .int l2] [] h nx (oV r nx) := by
  intro n
  induction n with
  | zero => intro l2 h r H; unfold b_X12_remember_11 at H; cases H
  | succ n ih =>
    intro l2 h r H
    unfold b_X12_remember_11 at H
    refine ev_go hc_X12_remember (k := 2) (pc' := 15) (L' := [.ref l0, .ref l1, .int l2]) (S' := [.int 462, .int l2]) rfl ?_
    by_cases c1 : 462 ≤ l2
    · rw [if_pos c1] at H
      refine ev_bt hc_X12_remember (fe_X12_remember (pc := 15) rfl) rfl c1 ?_
      refine ev_go hc_X12_remember (k := 2) (pc' := 41) (L' := [.ref l0, .ref l1, .int l2]) (S' := [.ref l0, .ref l0]) rfl ?_
      obtain ⟨v2, ev2, H⟩ := Option.bind_eq_some_iff.mp H
      refine ev_4 hc_X12_remember (fe_X12_remember (pc := 41) rfl) (gI_gf ev2) ?_
      refine ev_go hc_X12_remember (k := 2) (pc' := 46) (L' := [.ref l0, .ref l1, .int l2]) (S' := [.int (v2 - 1), .ref l0]) rfl ?_
      obtain ⟨h3, eh3, H⟩ := Option.bind_eq_some_iff.mp H
      refine ev_5 hc_X12_remember (fe_X12_remember (pc := 46) rfl) (pF_pf eh3) ?_
      exact Ev.weak (ci_le_c (Or.inr rfl) (ci_le_c (Or.inr rfl) (ci_le_c (Or.inl rfl) (ci_le_n)))) (eb_X12_remember_49 hd H)
    · rw [if_neg c1] at H
      refine ev_bf hc_X12_remember (fe_X12_remember (pc := 15) rfl) rfl c1 ?_
      refine ev_go hc_X12_remember (k := 1) (pc' := 19) (L' := [.ref l0, .ref l1, .int l2]) (S' := [.ref l0]) rfl ?_
      obtain ⟨v4, ev4, H⟩ := Option.bind_eq_some_iff.mp H
      refine ev_4 hc_X12_remember (fe_X12_remember (pc := 19) rfl) (gR_gf ev4) ?_
      refine ev_go hc_X12_remember (k := 2) (pc' := 24) (L' := [.ref l0, .ref l1, .int l2]) (S' := [.ref l0, .int l2, .ref v4]) rfl ?_
      obtain ⟨v5, ev5, H⟩ := Option.bind_eq_some_iff.mp H
      refine ev_4 hc_X12_remember (fe_X12_remember (pc := 24) rfl) (gR_gf ev5) ?_
      refine ev_go hc_X12_remember (k := 3) (pc' := 31) (L' := [.ref l0, .ref l1, .int l2]) (S' := [.int (l2 + 42), .ref v5, .int l2, .ref v4]) rfl ?_
      obtain ⟨v6, ev6, H⟩ := Option.bind_eq_some_iff.mp H
      refine ev_4 hc_X12_remember (fe_X12_remember (pc := 31) rfl) (rI_al ev6) ?_
      obtain ⟨h7, eh7, H⟩ := Option.bind_eq_some_iff.mp H
      refine ev_5 hc_X12_remember (fe_X12_remember (pc := 32) rfl) (wI_as eh7) ?_
      refine ev_go hc_X12_remember (k := 2) (pc' := 11) (L' := [.ref l0, .ref l1, .int (l2 + 1)]) (S' := []) rfl ?_
      exact Ev.weak (ci_le_c (Or.inr rfl) (ci_le_c (Or.inr rfl) (ci_le_c (Or.inr rfl) (ci_le_n)))) (ih _ _ _ H)
def F_X12_remember (a0 : Nat) (a1 : Nat) (h : ci_H) : Option (ci_H) := if kO h a0 = some 12 then ((gI h a0 12 23).bind fun v1 => if v1 = 12 then (b_X12_remember_11 a0 a1 bigN 0 h) else (b_X12_remember_49 a0 a1 h)) else none
theorem K_X12_remember {a0 : Nat} {a1 : Nat} {h : ci_H} {r : ci_H} (H : F_X12_remember a0 a1 h = some r) : kO h a0 = some 12 := by
  unfold F_X12_remember at H
  by_cases c : kO h a0 = some 12
  · exact c
  · rw [if_neg c] at H; cases H
set_option maxHeartbeats 4000000 in
set_option maxRecDepth 20000 in
theorem E_X12_remember {xs : Nat → Int32} {N d : Nat} {nx : ci_N} {a0 : Nat} {a1 : Nat} {h : ci_H} {r : ci_H} (H : F_X12_remember a0 a1 h = some r) (hd : 1 ≤ d) : Ev xs N d 217 0 (ci_entry [.ref a0, .ref a1] 3) [] h nx (oV r nx) := by
  obtain ⟨d, rfl⟩ : ∃ d2, d = d2 + 1 := ⟨d - 1, by omega⟩
  have hd : 0 ≤ d := by omega
  unfold F_X12_remember at H
  by_cases ck : kO h a0 = some 12
  · rw [if_pos ck] at H
    show Ev xs N (d + 1) 217 0 [.ref a0, .ref a1, ci_junk] [] h nx _
    refine ev_go hc_X12_remember (k := 1) (pc' := 1) (L' := [.ref a0, .ref a1, ci_junk]) (S' := [.ref a0]) rfl ?_
    obtain ⟨v1, ev1, H⟩ := Option.bind_eq_some_iff.mp H
    refine ev_4 hc_X12_remember (fe_X12_remember (pc := 1) rfl) (gI_gf ev1) ?_
    refine ev_go hc_X12_remember (k := 1) (pc' := 6) (L' := [.ref a0, .ref a1, ci_junk]) (S' := [.int 12, .int v1]) rfl ?_
    by_cases c2 : v1 = 12
    · rw [if_pos c2] at H
      refine ev_bt hc_X12_remember (fe_X12_remember (pc := 6) rfl) rfl c2 ?_
      refine ev_go hc_X12_remember (k := 2) (pc' := 11) (L' := [.ref a0, .ref a1, .int 0]) (S' := []) rfl ?_
      exact Ev.weak (ci_le_c (Or.inr rfl) (ci_le_c (Or.inr rfl) (ci_le_c (Or.inr rfl) (ci_le_n)))) (eb_X12_remember_11 hd bigN _ _ _ H)
    · rw [if_neg c2] at H
      refine ev_bf hc_X12_remember (fe_X12_remember (pc := 6) rfl) rfl c2 ?_
      exact Ev.weak (ci_le_c (Or.inr rfl) (ci_le_c (Or.inr rfl) (ci_le_c (Or.inl rfl) (ci_le_n)))) (eb_X12_remember_49 hd H)
  · rw [if_neg ck] at H; cases H
theorem hc_X12_areBoth : ci_code (ci_Ms 218) = k_X12_areBoth := rfl
theorem fe_X12_areBoth {pc : Nat} {w : Option ci_I} (h : (k_X12_areBoth)[pc]? = some w) : (k_X12_areBoth)[pc]? = some w := h
def F_X12_areBoth (a0 : Nat) (a1 : Int32) (a2 : Int32) (h : ci_H) : Option (Int32 × ci_H) := if kO h a0 = some 12 then ((F_X12_isThing a0 a1 h).bind fun q1 => if q1.1 = 0 then (some (0, q1.2)) else ((F_X12_isHouse a0 a2 q1.2).bind fun q3 => if q3.1 = 0 then (some (0, q3.2)) else (some (1, q3.2)))) else none
theorem K_X12_areBoth {a0 : Nat} {a1 : Int32} {a2 : Int32} {h : ci_H} {r : Int32 × ci_H} (H : F_X12_areBoth a0 a1 a2 h = some r) : kO h a0 = some 12 := by
  unfold F_X12_areBoth at H
  by_cases c : kO h a0 = some 12
  · exact c
  · rw [if_neg c] at H; cases H
set_option maxHeartbeats 4000000 in
set_option maxRecDepth 20000 in
theorem E_X12_areBoth {xs : Nat → Int32} {N d : Nat} {nx : ci_N} {a0 : Nat} {a1 : Int32} {a2 : Int32} {h : ci_H} {r : Int32 × ci_H} (H : F_X12_areBoth a0 a1 a2 h = some r) (hd : 2 ≤ d) : Ev xs N d 218 0 (ci_entry [.ref a0, .int a1, .int a2] 3) [] h nx (oI r nx) := by
  obtain ⟨d, rfl⟩ : ∃ d2, d = d2 + 1 := ⟨d - 1, by omega⟩
  have hd : 1 ≤ d := by omega
  unfold F_X12_areBoth at H
  by_cases ck : kO h a0 = some 12
  · rw [if_pos ck] at H
    show Ev xs N (d + 1) 218 0 [.ref a0, .int a1, .int a2] [] h nx _
    refine ev_go hc_X12_areBoth (k := 2) (pc' := 2) (L' := [.ref a0, .int a1, .int a2]) (S' := [.int a1, .ref a0]) rfl ?_
    obtain ⟨q1, eq1, H⟩ := Option.bind_eq_some_iff.mp H
    refine ev_call (vs := [.ref a0, .int a1]) (rest := []) (q := q_X12_isThing) hc_X12_areBoth (Or.inr rfl) (fe_X12_areBoth (pc := 2) rfl) ms_174 rfl rfl (Nat.le_of_ble_eq_true rfl) (kO_recv (K_X12_isThing eq1)) (E_X12_isThing eq1 (by omega)) rfl ?_
    show Ev xs N (d + 1) 218 5 [.ref a0, .int a1, .int a2] [.int q1.1] q1.2 nx _
    by_cases c2 : q1.1 = 0
    · rw [if_pos c2] at H
      refine ev_bt hc_X12_areBoth (fe_X12_areBoth (pc := 5) rfl) rfl c2 ?_
      refine ev_go hc_X12_areBoth (k := 1) (pc' := 21) (L' := [.ref a0, .int a1, .int a2]) (S' := [.int 0]) rfl ?_
      obtain rfl := Option.some.inj H
      exact ev_8z hc_X12_areBoth (fe_X12_areBoth (pc := 21) rfl) rfl (Or.inl rfl)
    · rw [if_neg c2] at H
      refine ev_bf hc_X12_areBoth (fe_X12_areBoth (pc := 5) rfl) rfl c2 ?_
      refine ev_go hc_X12_areBoth (k := 2) (pc' := 10) (L' := [.ref a0, .int a1, .int a2]) (S' := [.int a2, .ref a0]) rfl ?_
      obtain ⟨q3, eq3, H⟩ := Option.bind_eq_some_iff.mp H
      refine ev_call (vs := [.ref a0, .int a2]) (rest := []) (q := q_X12_isHouse) hc_X12_areBoth (Or.inr rfl) (fe_X12_areBoth (pc := 10) rfl) ms_175 rfl rfl (Nat.le_of_ble_eq_true rfl) (kO_recv (K_X12_isHouse eq3)) (E_X12_isHouse eq3 (by omega)) rfl ?_
      show Ev xs N (d + 1) 218 13 [.ref a0, .int a1, .int a2] [.int q3.1] q3.2 nx _
      by_cases c4 : q3.1 = 0
      · rw [if_pos c4] at H
        refine ev_bt hc_X12_areBoth (fe_X12_areBoth (pc := 13) rfl) rfl c4 ?_
        refine ev_go hc_X12_areBoth (k := 1) (pc' := 21) (L' := [.ref a0, .int a1, .int a2]) (S' := [.int 0]) rfl ?_
        obtain rfl := Option.some.inj H
        exact ev_8z hc_X12_areBoth (fe_X12_areBoth (pc := 21) rfl) rfl (Or.inl rfl)
      · rw [if_neg c4] at H
        refine ev_bf hc_X12_areBoth (fe_X12_areBoth (pc := 13) rfl) rfl c4 ?_
        refine ev_go hc_X12_areBoth (k := 2) (pc' := 21) (L' := [.ref a0, .int a1, .int a2]) (S' := [.int 1]) rfl ?_
        obtain rfl := Option.some.inj H
        exact ev_8z hc_X12_areBoth (fe_X12_areBoth (pc := 21) rfl) rfl (Or.inr rfl)
  · rw [if_neg ck] at H; cases H
theorem hc_X12_isNobodys : ci_code (ci_Ms 219) = k_X12_isNobodys := rfl
theorem fe_X12_isNobodys {pc : Nat} {w : Option ci_I} (h : (k_X12_isNobodys)[pc]? = some w) : (k_X12_isNobodys)[pc]? = some w := h
def F_X12_isNobodys (a0 : Nat) (a1 : Int32) (h : ci_H) : Option (Int32 × ci_H) := if kO h a0 = some 12 then ((gR h a0 12 0).bind fun v1 => (rI h v1 (12 + a1)).bind fun v2 => if v2 = ((-1)) then (some (1, h)) else (some (0, h))) else none
theorem K_X12_isNobodys {a0 : Nat} {a1 : Int32} {h : ci_H} {r : Int32 × ci_H} (H : F_X12_isNobodys a0 a1 h = some r) : kO h a0 = some 12 := by
  unfold F_X12_isNobodys at H
  by_cases c : kO h a0 = some 12
  · exact c
  · rw [if_neg c] at H; cases H
set_option maxHeartbeats 4000000 in
set_option maxRecDepth 20000 in
theorem E_X12_isNobodys {xs : Nat → Int32} {N d : Nat} {nx : ci_N} {a0 : Nat} {a1 : Int32} {h : ci_H} {r : Int32 × ci_H} (H : F_X12_isNobodys a0 a1 h = some r) (hd : 0 ≤ d) : Ev xs N d 219 0 (ci_entry [.ref a0, .int a1] 2) [] h nx (oI r nx) := by
  unfold F_X12_isNobodys at H
  by_cases ck : kO h a0 = some 12
  · rw [if_pos ck] at H
    show Ev xs N d 219 0 [.ref a0, .int a1] [] h nx _
    refine ev_go hc_X12_isNobodys (k := 1) (pc' := 1) (L' := [.ref a0, .int a1]) (S' := [.ref a0]) rfl ?_
    obtain ⟨v1, ev1, H⟩ := Option.bind_eq_some_iff.mp H
    refine ev_4 hc_X12_isNobodys (fe_X12_isNobodys (pc := 1) rfl) (gR_gf ev1) ?_
    refine ev_go hc_X12_isNobodys (k := 3) (pc' := 8) (L' := [.ref a0, .int a1]) (S' := [.int (12 + a1), .ref v1]) rfl ?_
    obtain ⟨v2, ev2, H⟩ := Option.bind_eq_some_iff.mp H
    refine ev_4 hc_X12_isNobodys (fe_X12_isNobodys (pc := 8) rfl) (rI_al ev2) ?_
    refine ev_go hc_X12_isNobodys (k := 1) (pc' := 10) (L' := [.ref a0, .int a1]) (S' := [.int ((-1)), .int v2]) rfl ?_
    by_cases c3 : v2 = ((-1))
    · rw [if_pos c3] at H
      refine ev_bt hc_X12_isNobodys (fe_X12_isNobodys (pc := 10) rfl) rfl c3 ?_
      refine ev_go hc_X12_isNobodys (k := 2) (pc' := 18) (L' := [.ref a0, .int a1]) (S' := [.int 1]) rfl ?_
      obtain rfl := Option.some.inj H
      exact ev_8z hc_X12_isNobodys (fe_X12_isNobodys (pc := 18) rfl) rfl (Or.inr rfl)
    · rw [if_neg c3] at H
      refine ev_bf hc_X12_isNobodys (fe_X12_isNobodys (pc := 10) rfl) rfl c3 ?_
      refine ev_go hc_X12_isNobodys (k := 1) (pc' := 18) (L' := [.ref a0, .int a1]) (S' := [.int 0]) rfl ?_
      obtain rfl := Option.some.inj H
      exact ev_8z hc_X12_isNobodys (fe_X12_isNobodys (pc := 18) rfl) rfl (Or.inl rfl)
  · rw [if_neg ck] at H; cases H
theorem hc_X12_wouldBreak : ci_code (ci_Ms 220) = k_X12_wouldBreak := rfl
theorem fe_X12_wouldBreak {pc : Nat} {w : Option ci_I} (h : (k_X12_wouldBreak)[pc]? = some w) : (k_X12_wouldBreak)[pc]? = some w := h
def F_X12_wouldBreak (a0 : Nat) (a1 : Int32) (a2 : Int32) (h : ci_H) : Option (Int32 × ci_H) := if kO h a0 = some 12 then ((gR h a0 12 0).bind fun v1 => (gR h a0 12 0).bind fun v2 => (F_X12_keptBy a0 v2 a1 h).bind fun q3 => (F_X12_brokenBy a0 v1 (q3.1 ||| ((1 : Int32) <<< (a2 &&& 31))) q3.2).bind fun q4 => (gR q4.2 a0 12 0).bind fun v5 => (rI q4.2 v5 a2).bind fun v6 => (F_X12_kindsOf a0 v6 q4.2).bind fun q7 => if (q4.1 &&& q7.1) = 0 then (some (0, q7.2)) else (some (1, q7.2))) else none
theorem K_X12_wouldBreak {a0 : Nat} {a1 : Int32} {a2 : Int32} {h : ci_H} {r : Int32 × ci_H} (H : F_X12_wouldBreak a0 a1 a2 h = some r) : kO h a0 = some 12 := by
  unfold F_X12_wouldBreak at H
  by_cases c : kO h a0 = some 12
  · exact c
  · rw [if_neg c] at H; cases H
set_option maxHeartbeats 4000000 in
set_option maxRecDepth 20000 in
theorem E_X12_wouldBreak {xs : Nat → Int32} {N d : Nat} {nx : ci_N} {a0 : Nat} {a1 : Int32} {a2 : Int32} {h : ci_H} {r : Int32 × ci_H} (H : F_X12_wouldBreak a0 a1 a2 h = some r) (hd : 3 ≤ d) : Ev xs N d 220 0 (ci_entry [.ref a0, .int a1, .int a2] 3) [] h nx (oI r nx) := by
  obtain ⟨d, rfl⟩ : ∃ d2, d = d2 + 1 := ⟨d - 1, by omega⟩
  have hd : 2 ≤ d := by omega
  unfold F_X12_wouldBreak at H
  by_cases ck : kO h a0 = some 12
  · rw [if_pos ck] at H
    show Ev xs N (d + 1) 220 0 [.ref a0, .int a1, .int a2] [] h nx _
    refine ev_go hc_X12_wouldBreak (k := 2) (pc' := 2) (L' := [.ref a0, .int a1, .int a2]) (S' := [.ref a0, .ref a0]) rfl ?_
    obtain ⟨v1, ev1, H⟩ := Option.bind_eq_some_iff.mp H
    refine ev_4 hc_X12_wouldBreak (fe_X12_wouldBreak (pc := 2) rfl) (gR_gf ev1) ?_
    refine ev_go hc_X12_wouldBreak (k := 2) (pc' := 7) (L' := [.ref a0, .int a1, .int a2]) (S' := [.ref a0, .ref a0, .ref v1, .ref a0]) rfl ?_
    obtain ⟨v2, ev2, H⟩ := Option.bind_eq_some_iff.mp H
    refine ev_4 hc_X12_wouldBreak (fe_X12_wouldBreak (pc := 7) rfl) (gR_gf ev2) ?_
    refine ev_go hc_X12_wouldBreak (k := 1) (pc' := 11) (L' := [.ref a0, .int a1, .int a2]) (S' := [.int a1, .ref v2, .ref a0, .ref v1, .ref a0]) rfl ?_
    obtain ⟨q3, eq3, H⟩ := Option.bind_eq_some_iff.mp H
    refine ev_call (vs := [.ref a0, .ref v2, .int a1]) (rest := [.ref v1, .ref a0]) (q := q_X12_keptBy) hc_X12_wouldBreak (Or.inr rfl) (fe_X12_wouldBreak (pc := 11) rfl) ms_202 rfl rfl (Nat.le_of_ble_eq_true rfl) (kO_recv (K_X12_keptBy eq3)) (E_X12_keptBy eq3 (by omega)) rfl ?_
    show Ev xs N (d + 1) 220 14 [.ref a0, .int a1, .int a2] [.int q3.1, .ref v1, .ref a0] q3.2 nx _
    refine ev_go hc_X12_wouldBreak (k := 4) (pc' := 18) (L' := [.ref a0, .int a1, .int a2]) (S' := [.int (q3.1 ||| ((1 : Int32) <<< (a2 &&& 31))), .ref v1, .ref a0]) rfl ?_
    obtain ⟨q4, eq4, H⟩ := Option.bind_eq_some_iff.mp H
    refine ev_call (vs := [.ref a0, .ref v1, .int (q3.1 ||| ((1 : Int32) <<< (a2 &&& 31)))]) (rest := []) (q := q_X12_brokenBy) hc_X12_wouldBreak (Or.inr rfl) (fe_X12_wouldBreak (pc := 18) rfl) ms_205 rfl rfl (Nat.le_of_ble_eq_true rfl) (kO_recv (K_X12_brokenBy eq4)) (E_X12_brokenBy eq4 (by omega)) rfl ?_
    show Ev xs N (d + 1) 220 21 [.ref a0, .int a1, .int a2] [.int q4.1] q4.2 nx _
    refine ev_go hc_X12_wouldBreak (k := 2) (pc' := 23) (L' := [.ref a0, .int a1, .int a2]) (S' := [.ref a0, .ref a0, .int q4.1]) rfl ?_
    obtain ⟨v5, ev5, H⟩ := Option.bind_eq_some_iff.mp H
    refine ev_4 hc_X12_wouldBreak (fe_X12_wouldBreak (pc := 23) rfl) (gR_gf ev5) ?_
    refine ev_go hc_X12_wouldBreak (k := 1) (pc' := 27) (L' := [.ref a0, .int a1, .int a2]) (S' := [.int a2, .ref v5, .ref a0, .int q4.1]) rfl ?_
    obtain ⟨v6, ev6, H⟩ := Option.bind_eq_some_iff.mp H
    refine ev_4 hc_X12_wouldBreak (fe_X12_wouldBreak (pc := 27) rfl) (rI_al ev6) ?_
    obtain ⟨q7, eq7, H⟩ := Option.bind_eq_some_iff.mp H
    refine ev_call (vs := [.ref a0, .int v6]) (rest := [.int q4.1]) (q := q_X12_kindsOf) hc_X12_wouldBreak (Or.inr rfl) (fe_X12_wouldBreak (pc := 28) rfl) ms_201 rfl rfl (Nat.le_of_ble_eq_true rfl) (kO_recv (K_X12_kindsOf eq7)) (E_X12_kindsOf eq7 (by omega)) rfl ?_
    show Ev xs N (d + 1) 220 31 [.ref a0, .int a1, .int a2] [.int q7.1, .int q4.1] q7.2 nx _
    refine ev_go hc_X12_wouldBreak (k := 1) (pc' := 32) (L' := [.ref a0, .int a1, .int a2]) (S' := [.int (q4.1 &&& q7.1)]) rfl ?_
    by_cases c8 : (q4.1 &&& q7.1) = 0
    · rw [if_pos c8] at H
      refine ev_bt hc_X12_wouldBreak (fe_X12_wouldBreak (pc := 32) rfl) rfl c8 ?_
      refine ev_go hc_X12_wouldBreak (k := 1) (pc' := 40) (L' := [.ref a0, .int a1, .int a2]) (S' := [.int 0]) rfl ?_
      obtain rfl := Option.some.inj H
      exact ev_8z hc_X12_wouldBreak (fe_X12_wouldBreak (pc := 40) rfl) rfl (Or.inl rfl)
    · rw [if_neg c8] at H
      refine ev_bf hc_X12_wouldBreak (fe_X12_wouldBreak (pc := 32) rfl) rfl c8 ?_
      refine ev_go hc_X12_wouldBreak (k := 2) (pc' := 40) (L' := [.ref a0, .int a1, .int a2]) (S' := [.int 1]) rfl ?_
      obtain rfl := Option.some.inj H
      exact ev_8z hc_X12_wouldBreak (fe_X12_wouldBreak (pc := 40) rfl) rfl (Or.inr rfl)
  · rw [if_neg ck] at H; cases H
theorem hc_X12_belong : ci_code (ci_Ms 221) = k_X12_belong := rfl
theorem fe_X12_belong {pc : Nat} {w : Option ci_I} (h : (k_X12_belong)[pc]? = some w) : (k_X12_belong)[pc]? = some w := h
def F_X12_belong (a0 : Nat) (a1 : Int32) (a2 : Int32) (h : ci_H) : Option (ci_H) := (wI h a0 (12 + a1) a2).bind fun h1 => (wI h1 a0 (24 + a1) a2).bind fun h2 => some h2
set_option maxHeartbeats 4000000 in
set_option maxRecDepth 20000 in
theorem E_X12_belong {xs : Nat → Int32} {N d : Nat} {nx : ci_N} {a0 : Nat} {a1 : Int32} {a2 : Int32} {h : ci_H} {r : ci_H} (H : F_X12_belong a0 a1 a2 h = some r) (hd : 0 ≤ d) : Ev xs N d 221 0 (ci_entry [.ref a0, .int a1, .int a2] 3) [] h nx (oV r nx) := by
  unfold F_X12_belong at H
  show Ev xs N d 221 0 [.ref a0, .int a1, .int a2] [] h nx _
  refine ev_go hc_X12_belong (k := 5) (pc' := 6) (L' := [.ref a0, .int a1, .int a2]) (S' := [.int a2, .int (12 + a1), .ref a0]) rfl ?_
  obtain ⟨h1, eh1, H⟩ := Option.bind_eq_some_iff.mp H
  refine ev_5 hc_X12_belong (fe_X12_belong (pc := 6) rfl) (wI_as eh1) ?_
  refine ev_go hc_X12_belong (k := 5) (pc' := 13) (L' := [.ref a0, .int a1, .int a2]) (S' := [.int a2, .int (24 + a1), .ref a0]) rfl ?_
  obtain ⟨h2, eh2, H⟩ := Option.bind_eq_some_iff.mp H
  refine ev_5 hc_X12_belong (fe_X12_belong (pc := 13) rfl) (wI_as eh2) ?_
  obtain rfl := Option.some.inj H
  exact ev_8 hc_X12_belong (fe_X12_belong (pc := 14) rfl) rfl
theorem hc_X12_refusesBuy : ci_code (ci_Ms 222) = k_X12_refusesBuy := rfl
theorem fe_X12_refusesBuy {pc : Nat} {w : Option ci_I} (h : (k_X12_refusesBuy)[pc]? = some w) : (k_X12_refusesBuy)[pc]? = some w := h
def F_X12_refusesBuy (a0 : Nat) (a1 : Int32) (a2 : Int32) (h : ci_H) : Option (Int32 × ci_H) := if kO h a0 = some 12 then ((F_X12_areBoth a0 a1 a2 h).bind fun q1 => if q1.1 = 0 then (some ((-1), q1.2)) else ((F_X12_isNobodys a0 a1 q1.2).bind fun q3 => if q3.1 = 0 then (some ((-2), q3.2)) else ((gR q3.2 a0 12 0).bind fun v5 => (rI q3.2 v5 (36 + a2)).bind fun v6 => (F_X12_worthOf a0 a1 a2 q3.2).bind fun q7 => if q7.1 ≤ v6 then ((F_X12_wouldBreak a0 a2 a1 q7.2).bind fun q9 => if q9.1 = 0 then (some (0, q9.2)) else (some ((-4), q9.2))) else (some ((-3), q7.2))))) else none
theorem K_X12_refusesBuy {a0 : Nat} {a1 : Int32} {a2 : Int32} {h : ci_H} {r : Int32 × ci_H} (H : F_X12_refusesBuy a0 a1 a2 h = some r) : kO h a0 = some 12 := by
  unfold F_X12_refusesBuy at H
  by_cases c : kO h a0 = some 12
  · exact c
  · rw [if_neg c] at H; cases H
set_option maxHeartbeats 4000000 in
set_option maxRecDepth 20000 in
theorem E_X12_refusesBuy {xs : Nat → Int32} {N d : Nat} {nx : ci_N} {a0 : Nat} {a1 : Int32} {a2 : Int32} {h : ci_H} {r : Int32 × ci_H} (H : F_X12_refusesBuy a0 a1 a2 h = some r) (hd : 106 ≤ d) : Ev xs N d 222 0 (ci_entry [.ref a0, .int a1, .int a2] 3) [] h nx (oI r nx) := by
  obtain ⟨d, rfl⟩ : ∃ d2, d = d2 + 1 := ⟨d - 1, by omega⟩
  have hd : 105 ≤ d := by omega
  unfold F_X12_refusesBuy at H
  by_cases ck : kO h a0 = some 12
  · rw [if_pos ck] at H
    show Ev xs N (d + 1) 222 0 [.ref a0, .int a1, .int a2] [] h nx _
    refine ev_go hc_X12_refusesBuy (k := 3) (pc' := 3) (L' := [.ref a0, .int a1, .int a2]) (S' := [.int a2, .int a1, .ref a0]) rfl ?_
    obtain ⟨q1, eq1, H⟩ := Option.bind_eq_some_iff.mp H
    refine ev_call (vs := [.ref a0, .int a1, .int a2]) (rest := []) (q := q_X12_areBoth) hc_X12_refusesBuy (Or.inr rfl) (fe_X12_refusesBuy (pc := 3) rfl) ms_218 rfl rfl (Nat.le_of_ble_eq_true rfl) (kO_recv (K_X12_areBoth eq1)) (E_X12_areBoth eq1 (by omega)) rfl ?_
    show Ev xs N (d + 1) 222 6 [.ref a0, .int a1, .int a2] [.int q1.1] q1.2 nx _
    by_cases c2 : q1.1 = 0
    · rw [if_pos c2] at H
      refine ev_bt hc_X12_refusesBuy (fe_X12_refusesBuy (pc := 6) rfl) rfl c2 ?_
      refine ev_go hc_X12_refusesBuy (k := 1) (pc' := 10) (L' := [.ref a0, .int a1, .int a2]) (S' := [.int ((-1))]) rfl ?_
      obtain rfl := Option.some.inj H
      exact ev_8 hc_X12_refusesBuy (fe_X12_refusesBuy (pc := 10) rfl) rfl
    · rw [if_neg c2] at H
      refine ev_bf hc_X12_refusesBuy (fe_X12_refusesBuy (pc := 6) rfl) rfl c2 ?_
      refine ev_go hc_X12_refusesBuy (k := 2) (pc' := 13) (L' := [.ref a0, .int a1, .int a2]) (S' := [.int a1, .ref a0]) rfl ?_
      obtain ⟨q3, eq3, H⟩ := Option.bind_eq_some_iff.mp H
      refine ev_call (vs := [.ref a0, .int a1]) (rest := []) (q := q_X12_isNobodys) hc_X12_refusesBuy (Or.inr rfl) (fe_X12_refusesBuy (pc := 13) rfl) ms_219 rfl rfl (Nat.le_of_ble_eq_true rfl) (kO_recv (K_X12_isNobodys eq3)) (E_X12_isNobodys eq3 (by omega)) rfl ?_
      show Ev xs N (d + 1) 222 16 [.ref a0, .int a1, .int a2] [.int q3.1] q3.2 nx _
      by_cases c4 : q3.1 = 0
      · rw [if_pos c4] at H
        refine ev_bt hc_X12_refusesBuy (fe_X12_refusesBuy (pc := 16) rfl) rfl c4 ?_
        refine ev_go hc_X12_refusesBuy (k := 1) (pc' := 21) (L' := [.ref a0, .int a1, .int a2]) (S' := [.int ((-2))]) rfl ?_
        obtain rfl := Option.some.inj H
        exact ev_8 hc_X12_refusesBuy (fe_X12_refusesBuy (pc := 21) rfl) rfl
      · rw [if_neg c4] at H
        refine ev_bf hc_X12_refusesBuy (fe_X12_refusesBuy (pc := 16) rfl) rfl c4 ?_
        refine ev_go hc_X12_refusesBuy (k := 1) (pc' := 23) (L' := [.ref a0, .int a1, .int a2]) (S' := [.ref a0]) rfl ?_
        obtain ⟨v5, ev5, H⟩ := Option.bind_eq_some_iff.mp H
        refine ev_4 hc_X12_refusesBuy (fe_X12_refusesBuy (pc := 23) rfl) (gR_gf ev5) ?_
        refine ev_go hc_X12_refusesBuy (k := 3) (pc' := 30) (L' := [.ref a0, .int a1, .int a2]) (S' := [.int (36 + a2), .ref v5]) rfl ?_
        obtain ⟨v6, ev6, H⟩ := Option.bind_eq_some_iff.mp H
        refine ev_4 hc_X12_refusesBuy (fe_X12_refusesBuy (pc := 30) rfl) (rI_al ev6) ?_
        refine ev_go hc_X12_refusesBuy (k := 3) (pc' := 34) (L' := [.ref a0, .int a1, .int a2]) (S' := [.int a2, .int a1, .ref a0, .int v6]) rfl ?_
        obtain ⟨q7, eq7, H⟩ := Option.bind_eq_some_iff.mp H
        refine ev_call (vs := [.ref a0, .int a1, .int a2]) (rest := [.int v6]) (q := q_X12_worthOf) hc_X12_refusesBuy (Or.inr rfl) (fe_X12_refusesBuy (pc := 34) rfl) ms_208 rfl rfl (Nat.le_of_ble_eq_true rfl) (kO_recv (K_X12_worthOf eq7)) (E_X12_worthOf eq7 (by omega)) rfl ?_
        show Ev xs N (d + 1) 222 37 [.ref a0, .int a1, .int a2] [.int q7.1, .int v6] q7.2 nx _
        by_cases c8 : q7.1 ≤ v6
        · rw [if_pos c8] at H
          refine ev_bt hc_X12_refusesBuy (fe_X12_refusesBuy (pc := 37) rfl) rfl c8 ?_
          refine ev_go hc_X12_refusesBuy (k := 3) (pc' := 46) (L' := [.ref a0, .int a1, .int a2]) (S' := [.int a1, .int a2, .ref a0]) rfl ?_
          obtain ⟨q9, eq9, H⟩ := Option.bind_eq_some_iff.mp H
          refine ev_call (vs := [.ref a0, .int a2, .int a1]) (rest := []) (q := q_X12_wouldBreak) hc_X12_refusesBuy (Or.inr rfl) (fe_X12_refusesBuy (pc := 46) rfl) ms_220 rfl rfl (Nat.le_of_ble_eq_true rfl) (kO_recv (K_X12_wouldBreak eq9)) (E_X12_wouldBreak eq9 (by omega)) rfl ?_
          show Ev xs N (d + 1) 222 49 [.ref a0, .int a1, .int a2] [.int q9.1] q9.2 nx _
          by_cases c10 : q9.1 = 0
          · rw [if_pos c10] at H
            refine ev_bt hc_X12_refusesBuy (fe_X12_refusesBuy (pc := 49) rfl) rfl c10 ?_
            refine ev_go hc_X12_refusesBuy (k := 1) (pc' := 58) (L' := [.ref a0, .int a1, .int a2]) (S' := [.int 0]) rfl ?_
            obtain rfl := Option.some.inj H
            exact ev_8 hc_X12_refusesBuy (fe_X12_refusesBuy (pc := 58) rfl) rfl
          · rw [if_neg c10] at H
            refine ev_bf hc_X12_refusesBuy (fe_X12_refusesBuy (pc := 49) rfl) rfl c10 ?_
            refine ev_go hc_X12_refusesBuy (k := 2) (pc' := 58) (L' := [.ref a0, .int a1, .int a2]) (S' := [.int ((-4))]) rfl ?_
            obtain rfl := Option.some.inj H
            exact ev_8 hc_X12_refusesBuy (fe_X12_refusesBuy (pc := 58) rfl) rfl
        · rw [if_neg c8] at H
          refine ev_bf hc_X12_refusesBuy (fe_X12_refusesBuy (pc := 37) rfl) rfl c8 ?_
          refine ev_go hc_X12_refusesBuy (k := 1) (pc' := 42) (L' := [.ref a0, .int a1, .int a2]) (S' := [.int ((-3))]) rfl ?_
          obtain rfl := Option.some.inj H
          exact ev_8 hc_X12_refusesBuy (fe_X12_refusesBuy (pc := 42) rfl) rfl
  · rw [if_neg ck] at H; cases H
theorem hc_X12_goBuy : ci_code (ci_Ms 223) = k_X12_goBuy := rfl
theorem fe_X12_goBuy {pc : Nat} {w : Option ci_I} (h : (k_X12_goBuy)[pc]? = some w) : (k_X12_goBuy)[pc]? = some w := h
def F_X12_goBuy (a0 : Nat) (a1 : Int32) (a2 : Int32) (h : ci_H) : Option (Int32 × ci_H) := if kO h a0 = some 12 then ((gR h a0 12 0).bind fun v1 => (rI h v1 (36 + a2)).bind fun v2 => (F_X12_worthOf a0 a1 a2 h).bind fun q3 => (wI q3.2 v1 (36 + a2) (v2 - q3.1)).bind fun h4 => (gR h4 a0 12 0).bind fun v5 => (F_X12_belong v5 a1 a2 h4).bind fun h6 => (gR h6 a0 12 0).bind fun v7 => (rI h6 v7 (36 + a2)).bind fun v8 => some (v8, h6)) else none
theorem K_X12_goBuy {a0 : Nat} {a1 : Int32} {a2 : Int32} {h : ci_H} {r : Int32 × ci_H} (H : F_X12_goBuy a0 a1 a2 h = some r) : kO h a0 = some 12 := by
  unfold F_X12_goBuy at H
  by_cases c : kO h a0 = some 12
  · exact c
  · rw [if_neg c] at H; cases H
set_option maxHeartbeats 4000000 in
set_option maxRecDepth 20000 in
theorem E_X12_goBuy {xs : Nat → Int32} {N d : Nat} {nx : ci_N} {a0 : Nat} {a1 : Int32} {a2 : Int32} {h : ci_H} {r : Int32 × ci_H} (H : F_X12_goBuy a0 a1 a2 h = some r) (hd : 106 ≤ d) : Ev xs N d 223 0 (ci_entry [.ref a0, .int a1, .int a2] 3) [] h nx (oI r nx) := by
  obtain ⟨d, rfl⟩ : ∃ d2, d = d2 + 1 := ⟨d - 1, by omega⟩
  have hd : 105 ≤ d := by omega
  unfold F_X12_goBuy at H
  by_cases ck : kO h a0 = some 12
  · rw [if_pos ck] at H
    show Ev xs N (d + 1) 223 0 [.ref a0, .int a1, .int a2] [] h nx _
    refine ev_go hc_X12_goBuy (k := 1) (pc' := 1) (L' := [.ref a0, .int a1, .int a2]) (S' := [.ref a0]) rfl ?_
    obtain ⟨v1, ev1, H⟩ := Option.bind_eq_some_iff.mp H
    refine ev_4 hc_X12_goBuy (fe_X12_goBuy (pc := 1) rfl) (gR_gf ev1) ?_
    refine ev_go hc_X12_goBuy (k := 4) (pc' := 9) (L' := [.ref a0, .int a1, .int a2]) (S' := [.int (36 + a2), .ref v1, .int (36 + a2), .ref v1]) rfl ?_
    obtain ⟨v2, ev2, H⟩ := Option.bind_eq_some_iff.mp H
    refine ev_4 hc_X12_goBuy (fe_X12_goBuy (pc := 9) rfl) (rI_al ev2) ?_
    refine ev_go hc_X12_goBuy (k := 3) (pc' := 13) (L' := [.ref a0, .int a1, .int a2]) (S' := [.int a2, .int a1, .ref a0, .int v2, .int (36 + a2), .ref v1]) rfl ?_
    obtain ⟨q3, eq3, H⟩ := Option.bind_eq_some_iff.mp H
    refine ev_call (vs := [.ref a0, .int a1, .int a2]) (rest := [.int v2, .int (36 + a2), .ref v1]) (q := q_X12_worthOf) hc_X12_goBuy (Or.inr rfl) (fe_X12_goBuy (pc := 13) rfl) ms_208 rfl rfl (Nat.le_of_ble_eq_true rfl) (kO_recv (K_X12_worthOf eq3)) (E_X12_worthOf eq3 (by omega)) rfl ?_
    show Ev xs N (d + 1) 223 16 [.ref a0, .int a1, .int a2] [.int q3.1, .int v2, .int (36 + a2), .ref v1] q3.2 nx _
    refine ev_go hc_X12_goBuy (k := 1) (pc' := 17) (L' := [.ref a0, .int a1, .int a2]) (S' := [.int (v2 - q3.1), .int (36 + a2), .ref v1]) rfl ?_
    obtain ⟨h4, eh4, H⟩ := Option.bind_eq_some_iff.mp H
    refine ev_5 hc_X12_goBuy (fe_X12_goBuy (pc := 17) rfl) (wI_as eh4) ?_
    refine ev_go hc_X12_goBuy (k := 1) (pc' := 19) (L' := [.ref a0, .int a1, .int a2]) (S' := [.ref a0]) rfl ?_
    obtain ⟨v5, ev5, H⟩ := Option.bind_eq_some_iff.mp H
    refine ev_4 hc_X12_goBuy (fe_X12_goBuy (pc := 19) rfl) (gR_gf ev5) ?_
    refine ev_go hc_X12_goBuy (k := 2) (pc' := 24) (L' := [.ref a0, .int a1, .int a2]) (S' := [.int a2, .int a1, .ref v5]) rfl ?_
    obtain ⟨h6, eh6, H⟩ := Option.bind_eq_some_iff.mp H
    refine ev_call (vs := [.ref v5, .int a1, .int a2]) (rest := []) (q := q_X12_belong) hc_X12_goBuy (Or.inl rfl) (fe_X12_goBuy (pc := 24) rfl) ms_221 rfl rfl (Nat.le_of_ble_eq_true rfl) rfl (E_X12_belong eh6 (by omega)) rfl ?_
    show Ev xs N (d + 1) 223 27 [.ref a0, .int a1, .int a2] [] h6 nx _
    refine ev_go hc_X12_goBuy (k := 1) (pc' := 28) (L' := [.ref a0, .int a1, .int a2]) (S' := [.ref a0]) rfl ?_
    obtain ⟨v7, ev7, H⟩ := Option.bind_eq_some_iff.mp H
    refine ev_4 hc_X12_goBuy (fe_X12_goBuy (pc := 28) rfl) (gR_gf ev7) ?_
    refine ev_go hc_X12_goBuy (k := 3) (pc' := 35) (L' := [.ref a0, .int a1, .int a2]) (S' := [.int (36 + a2), .ref v7]) rfl ?_
    obtain ⟨v8, ev8, H⟩ := Option.bind_eq_some_iff.mp H
    refine ev_4 hc_X12_goBuy (fe_X12_goBuy (pc := 35) rfl) (rI_al ev8) ?_
    obtain rfl := Option.some.inj H
    exact ev_8 hc_X12_goBuy (fe_X12_goBuy (pc := 36) rfl) rfl
  · rw [if_neg ck] at H; cases H
theorem hc_X12_buy : ci_code (ci_Ms 224) = k_X12_buy := rfl
theorem fe_X12_buy {pc : Nat} {w : Option ci_I} (h : (k_X12_buy)[pc]? = some w) : (k_X12_buy)[pc]? = some w := h
def F_X12_buy (a0 : Nat) (a1 : Int32) (a2 : Int32) (h : ci_H) : Option (Int32 × ci_H) := if kO h a0 = some 12 then ((pF h a0 12 11 (.int 0)).bind fun h1 => (F_X12_refusesBuy a0 a1 a2 h1).bind fun q2 => if 0 ≤ q2.1 then ((gR q2.2 a0 12 0).bind fun v4 => (F_X12_remember a0 v4 q2.2).bind fun h5 => (F_X12_goBuy a0 a1 a2 h5).bind fun q6 => some (q6.1, q6.2)) else (some (q2.1, q2.2))) else none
theorem K_X12_buy {a0 : Nat} {a1 : Int32} {a2 : Int32} {h : ci_H} {r : Int32 × ci_H} (H : F_X12_buy a0 a1 a2 h = some r) : kO h a0 = some 12 := by
  unfold F_X12_buy at H
  by_cases c : kO h a0 = some 12
  · exact c
  · rw [if_neg c] at H; cases H
set_option maxHeartbeats 4000000 in
set_option maxRecDepth 20000 in
theorem E_X12_buy {xs : Nat → Int32} {N d : Nat} {nx : ci_N} {a0 : Nat} {a1 : Int32} {a2 : Int32} {h : ci_H} {r : Int32 × ci_H} (H : F_X12_buy a0 a1 a2 h = some r) (hd : 107 ≤ d) : Ev xs N d 224 0 (ci_entry [.ref a0, .int a1, .int a2] 4) [] h nx (oI r nx) := by
  obtain ⟨d, rfl⟩ : ∃ d2, d = d2 + 1 := ⟨d - 1, by omega⟩
  have hd : 106 ≤ d := by omega
  unfold F_X12_buy at H
  by_cases ck : kO h a0 = some 12
  · rw [if_pos ck] at H
    show Ev xs N (d + 1) 224 0 [.ref a0, .int a1, .int a2, ci_junk] [] h nx _
    refine ev_go hc_X12_buy (k := 2) (pc' := 2) (L' := [.ref a0, .int a1, .int a2, ci_junk]) (S' := [.int 0, .ref a0]) rfl ?_
    obtain ⟨h1, eh1, H⟩ := Option.bind_eq_some_iff.mp H
    refine ev_5 hc_X12_buy (fe_X12_buy (pc := 2) rfl) (pF_pf eh1) ?_
    refine ev_go hc_X12_buy (k := 3) (pc' := 8) (L' := [.ref a0, .int a1, .int a2, ci_junk]) (S' := [.int a2, .int a1, .ref a0]) rfl ?_
    obtain ⟨q2, eq2, H⟩ := Option.bind_eq_some_iff.mp H
    refine ev_call (vs := [.ref a0, .int a1, .int a2]) (rest := []) (q := q_X12_refusesBuy) hc_X12_buy (Or.inr rfl) (fe_X12_buy (pc := 8) rfl) ms_222 rfl rfl (Nat.le_of_ble_eq_true rfl) (kO_recv (K_X12_refusesBuy eq2)) (E_X12_refusesBuy eq2 (by omega)) rfl ?_
    show Ev xs N (d + 1) 224 11 [.ref a0, .int a1, .int a2, ci_junk] [.int q2.1] q2.2 nx _
    refine ev_go hc_X12_buy (k := 2) (pc' := 13) (L' := [.ref a0, .int a1, .int a2, .int q2.1]) (S' := [.int q2.1]) rfl ?_
    by_cases c3 : 0 ≤ q2.1
    · rw [if_pos c3] at H
      refine ev_bt hc_X12_buy (fe_X12_buy (pc := 13) rfl) rfl c3 ?_
      refine ev_go hc_X12_buy (k := 2) (pc' := 20) (L' := [.ref a0, .int a1, .int a2, .int q2.1]) (S' := [.ref a0, .ref a0]) rfl ?_
      obtain ⟨v4, ev4, H⟩ := Option.bind_eq_some_iff.mp H
      refine ev_4 hc_X12_buy (fe_X12_buy (pc := 20) rfl) (gR_gf ev4) ?_
      obtain ⟨h5, eh5, H⟩ := Option.bind_eq_some_iff.mp H
      refine ev_call (vs := [.ref a0, .ref v4]) (rest := []) (q := q_X12_remember) hc_X12_buy (Or.inr rfl) (fe_X12_buy (pc := 23) rfl) ms_217 rfl rfl (Nat.le_of_ble_eq_true rfl) (kO_recv (K_X12_remember eh5)) (E_X12_remember eh5 (by omega)) rfl ?_
      show Ev xs N (d + 1) 224 26 [.ref a0, .int a1, .int a2, .int q2.1] [] h5 nx _
      refine ev_go hc_X12_buy (k := 3) (pc' := 29) (L' := [.ref a0, .int a1, .int a2, .int q2.1]) (S' := [.int a2, .int a1, .ref a0]) rfl ?_
      obtain ⟨q6, eq6, H⟩ := Option.bind_eq_some_iff.mp H
      refine ev_call (vs := [.ref a0, .int a1, .int a2]) (rest := []) (q := q_X12_goBuy) hc_X12_buy (Or.inr rfl) (fe_X12_buy (pc := 29) rfl) ms_223 rfl rfl (Nat.le_of_ble_eq_true rfl) (kO_recv (K_X12_goBuy eq6)) (E_X12_goBuy eq6 (by omega)) rfl ?_
      show Ev xs N (d + 1) 224 32 [.ref a0, .int a1, .int a2, .int q2.1] [.int q6.1] q6.2 nx _
      obtain rfl := Option.some.inj H
      exact ev_8 hc_X12_buy (fe_X12_buy (pc := 32) rfl) rfl
    · rw [if_neg c3] at H
      refine ev_bf hc_X12_buy (fe_X12_buy (pc := 13) rfl) rfl c3 ?_
      refine ev_go hc_X12_buy (k := 1) (pc' := 17) (L' := [.ref a0, .int a1, .int a2, .int q2.1]) (S' := [.int q2.1]) rfl ?_
      obtain rfl := Option.some.inj H
      exact ev_8 hc_X12_buy (fe_X12_buy (pc := 17) rfl) rfl
  · rw [if_neg ck] at H; cases H
theorem hc_X12_refusesGive : ci_code (ci_Ms 225) = k_X12_refusesGive := rfl
theorem fe_X12_refusesGive {pc : Nat} {w : Option ci_I} (h : (k_X12_refusesGive)[pc]? = some w) : (k_X12_refusesGive)[pc]? = some w := h
def F_X12_refusesGive (a0 : Nat) (a1 : Int32) (a2 : Int32) (h : ci_H) : Option (Int32 × ci_H) := if kO h a0 = some 12 then ((F_X12_areBoth a0 a1 a2 h).bind fun q1 => if q1.1 = 0 then (some ((-1), q1.2)) else ((F_X12_isNobodys a0 a1 q1.2).bind fun q3 => if q3.1 = 0 then ((gR q3.2 a0 12 0).bind fun v5 => (rI q3.2 v5 (12 + a1)).bind fun v6 => (gR q3.2 a0 12 0).bind fun v7 => (rI q3.2 v7 (24 + a1)).bind fun v8 => if v6 = v8 then ((gR q3.2 a0 12 0).bind fun v10 => (rI q3.2 v10 (12 + a1)).bind fun v11 => if v11 = a2 then (some ((-3), q3.2)) else (some (0, q3.2))) else (some ((-2), q3.2))) else (some ((-2), q3.2)))) else none
theorem K_X12_refusesGive {a0 : Nat} {a1 : Int32} {a2 : Int32} {h : ci_H} {r : Int32 × ci_H} (H : F_X12_refusesGive a0 a1 a2 h = some r) : kO h a0 = some 12 := by
  unfold F_X12_refusesGive at H
  by_cases c : kO h a0 = some 12
  · exact c
  · rw [if_neg c] at H; cases H
set_option maxHeartbeats 4000000 in
set_option maxRecDepth 20000 in
theorem E_X12_refusesGive {xs : Nat → Int32} {N d : Nat} {nx : ci_N} {a0 : Nat} {a1 : Int32} {a2 : Int32} {h : ci_H} {r : Int32 × ci_H} (H : F_X12_refusesGive a0 a1 a2 h = some r) (hd : 3 ≤ d) : Ev xs N d 225 0 (ci_entry [.ref a0, .int a1, .int a2] 3) [] h nx (oI r nx) := by
  obtain ⟨d, rfl⟩ : ∃ d2, d = d2 + 1 := ⟨d - 1, by omega⟩
  have hd : 2 ≤ d := by omega
  unfold F_X12_refusesGive at H
  by_cases ck : kO h a0 = some 12
  · rw [if_pos ck] at H
    show Ev xs N (d + 1) 225 0 [.ref a0, .int a1, .int a2] [] h nx _
    refine ev_go hc_X12_refusesGive (k := 3) (pc' := 3) (L' := [.ref a0, .int a1, .int a2]) (S' := [.int a2, .int a1, .ref a0]) rfl ?_
    obtain ⟨q1, eq1, H⟩ := Option.bind_eq_some_iff.mp H
    refine ev_call (vs := [.ref a0, .int a1, .int a2]) (rest := []) (q := q_X12_areBoth) hc_X12_refusesGive (Or.inr rfl) (fe_X12_refusesGive (pc := 3) rfl) ms_218 rfl rfl (Nat.le_of_ble_eq_true rfl) (kO_recv (K_X12_areBoth eq1)) (E_X12_areBoth eq1 (by omega)) rfl ?_
    show Ev xs N (d + 1) 225 6 [.ref a0, .int a1, .int a2] [.int q1.1] q1.2 nx _
    by_cases c2 : q1.1 = 0
    · rw [if_pos c2] at H
      refine ev_bt hc_X12_refusesGive (fe_X12_refusesGive (pc := 6) rfl) rfl c2 ?_
      refine ev_go hc_X12_refusesGive (k := 1) (pc' := 10) (L' := [.ref a0, .int a1, .int a2]) (S' := [.int ((-1))]) rfl ?_
      obtain rfl := Option.some.inj H
      exact ev_8 hc_X12_refusesGive (fe_X12_refusesGive (pc := 10) rfl) rfl
    · rw [if_neg c2] at H
      refine ev_bf hc_X12_refusesGive (fe_X12_refusesGive (pc := 6) rfl) rfl c2 ?_
      refine ev_go hc_X12_refusesGive (k := 2) (pc' := 13) (L' := [.ref a0, .int a1, .int a2]) (S' := [.int a1, .ref a0]) rfl ?_
      obtain ⟨q3, eq3, H⟩ := Option.bind_eq_some_iff.mp H
      refine ev_call (vs := [.ref a0, .int a1]) (rest := []) (q := q_X12_isNobodys) hc_X12_refusesGive (Or.inr rfl) (fe_X12_refusesGive (pc := 13) rfl) ms_219 rfl rfl (Nat.le_of_ble_eq_true rfl) (kO_recv (K_X12_isNobodys eq3)) (E_X12_isNobodys eq3 (by omega)) rfl ?_
      show Ev xs N (d + 1) 225 16 [.ref a0, .int a1, .int a2] [.int q3.1] q3.2 nx _
      by_cases c4 : q3.1 = 0
      · rw [if_pos c4] at H
        refine ev_bt hc_X12_refusesGive (fe_X12_refusesGive (pc := 16) rfl) rfl c4 ?_
        refine ev_go hc_X12_refusesGive (k := 1) (pc' := 20) (L' := [.ref a0, .int a1, .int a2]) (S' := [.ref a0]) rfl ?_
        obtain ⟨v5, ev5, H⟩ := Option.bind_eq_some_iff.mp H
        refine ev_4 hc_X12_refusesGive (fe_X12_refusesGive (pc := 20) rfl) (gR_gf ev5) ?_
        refine ev_go hc_X12_refusesGive (k := 3) (pc' := 27) (L' := [.ref a0, .int a1, .int a2]) (S' := [.int (12 + a1), .ref v5]) rfl ?_
        obtain ⟨v6, ev6, H⟩ := Option.bind_eq_some_iff.mp H
        refine ev_4 hc_X12_refusesGive (fe_X12_refusesGive (pc := 27) rfl) (rI_al ev6) ?_
        refine ev_go hc_X12_refusesGive (k := 1) (pc' := 29) (L' := [.ref a0, .int a1, .int a2]) (S' := [.ref a0, .int v6]) rfl ?_
        obtain ⟨v7, ev7, H⟩ := Option.bind_eq_some_iff.mp H
        refine ev_4 hc_X12_refusesGive (fe_X12_refusesGive (pc := 29) rfl) (gR_gf ev7) ?_
        refine ev_go hc_X12_refusesGive (k := 3) (pc' := 36) (L' := [.ref a0, .int a1, .int a2]) (S' := [.int (24 + a1), .ref v7, .int v6]) rfl ?_
        obtain ⟨v8, ev8, H⟩ := Option.bind_eq_some_iff.mp H
        refine ev_4 hc_X12_refusesGive (fe_X12_refusesGive (pc := 36) rfl) (rI_al ev8) ?_
        by_cases c9 : v6 = v8
        · rw [if_pos c9] at H
          refine ev_bt hc_X12_refusesGive (fe_X12_refusesGive (pc := 37) rfl) rfl c9 ?_
          refine ev_go hc_X12_refusesGive (k := 1) (pc' := 44) (L' := [.ref a0, .int a1, .int a2]) (S' := [.ref a0]) rfl ?_
          obtain ⟨v10, ev10, H⟩ := Option.bind_eq_some_iff.mp H
          refine ev_4 hc_X12_refusesGive (fe_X12_refusesGive (pc := 44) rfl) (gR_gf ev10) ?_
          refine ev_go hc_X12_refusesGive (k := 3) (pc' := 51) (L' := [.ref a0, .int a1, .int a2]) (S' := [.int (12 + a1), .ref v10]) rfl ?_
          obtain ⟨v11, ev11, H⟩ := Option.bind_eq_some_iff.mp H
          refine ev_4 hc_X12_refusesGive (fe_X12_refusesGive (pc := 51) rfl) (rI_al ev11) ?_
          refine ev_go hc_X12_refusesGive (k := 1) (pc' := 53) (L' := [.ref a0, .int a1, .int a2]) (S' := [.int a2, .int v11]) rfl ?_
          by_cases c12 : v11 = a2
          · rw [if_pos c12] at H
            refine ev_bt hc_X12_refusesGive (fe_X12_refusesGive (pc := 53) rfl) rfl c12 ?_
            refine ev_go hc_X12_refusesGive (k := 2) (pc' := 62) (L' := [.ref a0, .int a1, .int a2]) (S' := [.int ((-3))]) rfl ?_
            obtain rfl := Option.some.inj H
            exact ev_8 hc_X12_refusesGive (fe_X12_refusesGive (pc := 62) rfl) rfl
          · rw [if_neg c12] at H
            refine ev_bf hc_X12_refusesGive (fe_X12_refusesGive (pc := 53) rfl) rfl c12 ?_
            refine ev_go hc_X12_refusesGive (k := 1) (pc' := 62) (L' := [.ref a0, .int a1, .int a2]) (S' := [.int 0]) rfl ?_
            obtain rfl := Option.some.inj H
            exact ev_8 hc_X12_refusesGive (fe_X12_refusesGive (pc := 62) rfl) rfl
        · rw [if_neg c9] at H
          refine ev_bf hc_X12_refusesGive (fe_X12_refusesGive (pc := 37) rfl) rfl c9 ?_
          refine ev_go hc_X12_refusesGive (k := 1) (pc' := 42) (L' := [.ref a0, .int a1, .int a2]) (S' := [.int ((-2))]) rfl ?_
          obtain rfl := Option.some.inj H
          exact ev_8 hc_X12_refusesGive (fe_X12_refusesGive (pc := 42) rfl) rfl
      · rw [if_neg c4] at H
        refine ev_bf hc_X12_refusesGive (fe_X12_refusesGive (pc := 16) rfl) rfl c4 ?_
        refine ev_go hc_X12_refusesGive (k := 1) (pc' := 42) (L' := [.ref a0, .int a1, .int a2]) (S' := [.int ((-2))]) rfl ?_
        obtain rfl := Option.some.inj H
        exact ev_8 hc_X12_refusesGive (fe_X12_refusesGive (pc := 42) rfl) rfl
  · rw [if_neg ck] at H; cases H
theorem hc_X12_give : ci_code (ci_Ms 226) = k_X12_give := rfl
theorem fe_X12_give {pc : Nat} {w : Option ci_I} (h : (k_X12_give)[pc]? = some w) : (k_X12_give)[pc]? = some w := h
def F_X12_give (a0 : Nat) (a1 : Int32) (a2 : Int32) (h : ci_H) : Option (Int32 × ci_H) := if kO h a0 = some 12 then ((pF h a0 12 11 (.int 0)).bind fun h1 => (F_X12_refusesGive a0 a1 a2 h1).bind fun q2 => if 0 ≤ q2.1 then ((gR q2.2 a0 12 0).bind fun v4 => (F_X12_remember a0 v4 q2.2).bind fun h5 => (gR h5 a0 12 0).bind fun v6 => (rI h5 v6 (12 + a1)).bind fun v7 => (gR h5 a0 12 0).bind fun v8 => (F_X12_belong v8 a1 a2 h5).bind fun h9 => some (v7, h9)) else (some (q2.1, q2.2))) else none
theorem K_X12_give {a0 : Nat} {a1 : Int32} {a2 : Int32} {h : ci_H} {r : Int32 × ci_H} (H : F_X12_give a0 a1 a2 h = some r) : kO h a0 = some 12 := by
  unfold F_X12_give at H
  by_cases c : kO h a0 = some 12
  · exact c
  · rw [if_neg c] at H; cases H
set_option maxHeartbeats 4000000 in
set_option maxRecDepth 20000 in
theorem E_X12_give {xs : Nat → Int32} {N d : Nat} {nx : ci_N} {a0 : Nat} {a1 : Int32} {a2 : Int32} {h : ci_H} {r : Int32 × ci_H} (H : F_X12_give a0 a1 a2 h = some r) (hd : 4 ≤ d) : Ev xs N d 226 0 (ci_entry [.ref a0, .int a1, .int a2] 5) [] h nx (oI r nx) := by
  obtain ⟨d, rfl⟩ : ∃ d2, d = d2 + 1 := ⟨d - 1, by omega⟩
  have hd : 3 ≤ d := by omega
  unfold F_X12_give at H
  by_cases ck : kO h a0 = some 12
  · rw [if_pos ck] at H
    show Ev xs N (d + 1) 226 0 [.ref a0, .int a1, .int a2, ci_junk, ci_junk] [] h nx _
    refine ev_go hc_X12_give (k := 2) (pc' := 2) (L' := [.ref a0, .int a1, .int a2, ci_junk, ci_junk]) (S' := [.int 0, .ref a0]) rfl ?_
    obtain ⟨h1, eh1, H⟩ := Option.bind_eq_some_iff.mp H
    refine ev_5 hc_X12_give (fe_X12_give (pc := 2) rfl) (pF_pf eh1) ?_
    refine ev_go hc_X12_give (k := 3) (pc' := 8) (L' := [.ref a0, .int a1, .int a2, ci_junk, ci_junk]) (S' := [.int a2, .int a1, .ref a0]) rfl ?_
    obtain ⟨q2, eq2, H⟩ := Option.bind_eq_some_iff.mp H
    refine ev_call (vs := [.ref a0, .int a1, .int a2]) (rest := []) (q := q_X12_refusesGive) hc_X12_give (Or.inr rfl) (fe_X12_give (pc := 8) rfl) ms_225 rfl rfl (Nat.le_of_ble_eq_true rfl) (kO_recv (K_X12_refusesGive eq2)) (E_X12_refusesGive eq2 (by omega)) rfl ?_
    show Ev xs N (d + 1) 226 11 [.ref a0, .int a1, .int a2, ci_junk, ci_junk] [.int q2.1] q2.2 nx _
    refine ev_go hc_X12_give (k := 2) (pc' := 13) (L' := [.ref a0, .int a1, .int a2, .int q2.1, ci_junk]) (S' := [.int q2.1]) rfl ?_
    by_cases c3 : 0 ≤ q2.1
    · rw [if_pos c3] at H
      refine ev_bt hc_X12_give (fe_X12_give (pc := 13) rfl) rfl c3 ?_
      refine ev_go hc_X12_give (k := 2) (pc' := 20) (L' := [.ref a0, .int a1, .int a2, .int q2.1, ci_junk]) (S' := [.ref a0, .ref a0]) rfl ?_
      obtain ⟨v4, ev4, H⟩ := Option.bind_eq_some_iff.mp H
      refine ev_4 hc_X12_give (fe_X12_give (pc := 20) rfl) (gR_gf ev4) ?_
      obtain ⟨h5, eh5, H⟩ := Option.bind_eq_some_iff.mp H
      refine ev_call (vs := [.ref a0, .ref v4]) (rest := []) (q := q_X12_remember) hc_X12_give (Or.inr rfl) (fe_X12_give (pc := 23) rfl) ms_217 rfl rfl (Nat.le_of_ble_eq_true rfl) (kO_recv (K_X12_remember eh5)) (E_X12_remember eh5 (by omega)) rfl ?_
      show Ev xs N (d + 1) 226 26 [.ref a0, .int a1, .int a2, .int q2.1, ci_junk] [] h5 nx _
      refine ev_go hc_X12_give (k := 1) (pc' := 27) (L' := [.ref a0, .int a1, .int a2, .int q2.1, ci_junk]) (S' := [.ref a0]) rfl ?_
      obtain ⟨v6, ev6, H⟩ := Option.bind_eq_some_iff.mp H
      refine ev_4 hc_X12_give (fe_X12_give (pc := 27) rfl) (gR_gf ev6) ?_
      refine ev_go hc_X12_give (k := 3) (pc' := 34) (L' := [.ref a0, .int a1, .int a2, .int q2.1, ci_junk]) (S' := [.int (12 + a1), .ref v6]) rfl ?_
      obtain ⟨v7, ev7, H⟩ := Option.bind_eq_some_iff.mp H
      refine ev_4 hc_X12_give (fe_X12_give (pc := 34) rfl) (rI_al ev7) ?_
      refine ev_go hc_X12_give (k := 2) (pc' := 38) (L' := [.ref a0, .int a1, .int a2, .int q2.1, .int v7]) (S' := [.ref a0]) rfl ?_
      obtain ⟨v8, ev8, H⟩ := Option.bind_eq_some_iff.mp H
      refine ev_4 hc_X12_give (fe_X12_give (pc := 38) rfl) (gR_gf ev8) ?_
      refine ev_go hc_X12_give (k := 2) (pc' := 43) (L' := [.ref a0, .int a1, .int a2, .int q2.1, .int v7]) (S' := [.int a2, .int a1, .ref v8]) rfl ?_
      obtain ⟨h9, eh9, H⟩ := Option.bind_eq_some_iff.mp H
      refine ev_call (vs := [.ref v8, .int a1, .int a2]) (rest := []) (q := q_X12_belong) hc_X12_give (Or.inl rfl) (fe_X12_give (pc := 43) rfl) ms_221 rfl rfl (Nat.le_of_ble_eq_true rfl) rfl (E_X12_belong eh9 (by omega)) rfl ?_
      show Ev xs N (d + 1) 226 46 [.ref a0, .int a1, .int a2, .int q2.1, .int v7] [] h9 nx _
      refine ev_go hc_X12_give (k := 1) (pc' := 48) (L' := [.ref a0, .int a1, .int a2, .int q2.1, .int v7]) (S' := [.int v7]) rfl ?_
      obtain rfl := Option.some.inj H
      exact ev_8 hc_X12_give (fe_X12_give (pc := 48) rfl) rfl
    · rw [if_neg c3] at H
      refine ev_bf hc_X12_give (fe_X12_give (pc := 13) rfl) rfl c3 ?_
      refine ev_go hc_X12_give (k := 1) (pc' := 17) (L' := [.ref a0, .int a1, .int a2, .int q2.1, ci_junk]) (S' := [.int q2.1]) rfl ?_
      obtain rfl := Option.some.inj H
      exact ev_8 hc_X12_give (fe_X12_give (pc := 17) rfl) rfl
  · rw [if_neg ck] at H; cases H
theorem hc_X12_refusesLend : ci_code (ci_Ms 227) = k_X12_refusesLend := rfl
theorem fe_X12_refusesLend {pc : Nat} {w : Option ci_I} (h : (k_X12_refusesLend)[pc]? = some w) : (k_X12_refusesLend)[pc]? = some w := h
def F_X12_refusesLend (a0 : Nat) (a1 : Int32) (a2 : Int32) (h : ci_H) : Option (Int32 × ci_H) := if kO h a0 = some 12 then ((F_X12_areBoth a0 a1 a2 h).bind fun q1 => if q1.1 = 0 then (some ((-1), q1.2)) else ((F_X12_isNobodys a0 a1 q1.2).bind fun q3 => if q3.1 = 0 then ((gR q3.2 a0 12 0).bind fun v5 => (rI q3.2 v5 (24 + a1)).bind fun v6 => if v6 = a2 then (some ((-3), q3.2)) else (some (0, q3.2))) else (some ((-2), q3.2)))) else none
theorem K_X12_refusesLend {a0 : Nat} {a1 : Int32} {a2 : Int32} {h : ci_H} {r : Int32 × ci_H} (H : F_X12_refusesLend a0 a1 a2 h = some r) : kO h a0 = some 12 := by
  unfold F_X12_refusesLend at H
  by_cases c : kO h a0 = some 12
  · exact c
  · rw [if_neg c] at H; cases H
set_option maxHeartbeats 4000000 in
set_option maxRecDepth 20000 in
theorem E_X12_refusesLend {xs : Nat → Int32} {N d : Nat} {nx : ci_N} {a0 : Nat} {a1 : Int32} {a2 : Int32} {h : ci_H} {r : Int32 × ci_H} (H : F_X12_refusesLend a0 a1 a2 h = some r) (hd : 3 ≤ d) : Ev xs N d 227 0 (ci_entry [.ref a0, .int a1, .int a2] 3) [] h nx (oI r nx) := by
  obtain ⟨d, rfl⟩ : ∃ d2, d = d2 + 1 := ⟨d - 1, by omega⟩
  have hd : 2 ≤ d := by omega
  unfold F_X12_refusesLend at H
  by_cases ck : kO h a0 = some 12
  · rw [if_pos ck] at H
    show Ev xs N (d + 1) 227 0 [.ref a0, .int a1, .int a2] [] h nx _
    refine ev_go hc_X12_refusesLend (k := 3) (pc' := 3) (L' := [.ref a0, .int a1, .int a2]) (S' := [.int a2, .int a1, .ref a0]) rfl ?_
    obtain ⟨q1, eq1, H⟩ := Option.bind_eq_some_iff.mp H
    refine ev_call (vs := [.ref a0, .int a1, .int a2]) (rest := []) (q := q_X12_areBoth) hc_X12_refusesLend (Or.inr rfl) (fe_X12_refusesLend (pc := 3) rfl) ms_218 rfl rfl (Nat.le_of_ble_eq_true rfl) (kO_recv (K_X12_areBoth eq1)) (E_X12_areBoth eq1 (by omega)) rfl ?_
    show Ev xs N (d + 1) 227 6 [.ref a0, .int a1, .int a2] [.int q1.1] q1.2 nx _
    by_cases c2 : q1.1 = 0
    · rw [if_pos c2] at H
      refine ev_bt hc_X12_refusesLend (fe_X12_refusesLend (pc := 6) rfl) rfl c2 ?_
      refine ev_go hc_X12_refusesLend (k := 1) (pc' := 10) (L' := [.ref a0, .int a1, .int a2]) (S' := [.int ((-1))]) rfl ?_
      obtain rfl := Option.some.inj H
      exact ev_8 hc_X12_refusesLend (fe_X12_refusesLend (pc := 10) rfl) rfl
    · rw [if_neg c2] at H
      refine ev_bf hc_X12_refusesLend (fe_X12_refusesLend (pc := 6) rfl) rfl c2 ?_
      refine ev_go hc_X12_refusesLend (k := 2) (pc' := 13) (L' := [.ref a0, .int a1, .int a2]) (S' := [.int a1, .ref a0]) rfl ?_
      obtain ⟨q3, eq3, H⟩ := Option.bind_eq_some_iff.mp H
      refine ev_call (vs := [.ref a0, .int a1]) (rest := []) (q := q_X12_isNobodys) hc_X12_refusesLend (Or.inr rfl) (fe_X12_refusesLend (pc := 13) rfl) ms_219 rfl rfl (Nat.le_of_ble_eq_true rfl) (kO_recv (K_X12_isNobodys eq3)) (E_X12_isNobodys eq3 (by omega)) rfl ?_
      show Ev xs N (d + 1) 227 16 [.ref a0, .int a1, .int a2] [.int q3.1] q3.2 nx _
      by_cases c4 : q3.1 = 0
      · rw [if_pos c4] at H
        refine ev_bt hc_X12_refusesLend (fe_X12_refusesLend (pc := 16) rfl) rfl c4 ?_
        refine ev_go hc_X12_refusesLend (k := 1) (pc' := 23) (L' := [.ref a0, .int a1, .int a2]) (S' := [.ref a0]) rfl ?_
        obtain ⟨v5, ev5, H⟩ := Option.bind_eq_some_iff.mp H
        refine ev_4 hc_X12_refusesLend (fe_X12_refusesLend (pc := 23) rfl) (gR_gf ev5) ?_
        refine ev_go hc_X12_refusesLend (k := 3) (pc' := 30) (L' := [.ref a0, .int a1, .int a2]) (S' := [.int (24 + a1), .ref v5]) rfl ?_
        obtain ⟨v6, ev6, H⟩ := Option.bind_eq_some_iff.mp H
        refine ev_4 hc_X12_refusesLend (fe_X12_refusesLend (pc := 30) rfl) (rI_al ev6) ?_
        refine ev_go hc_X12_refusesLend (k := 1) (pc' := 32) (L' := [.ref a0, .int a1, .int a2]) (S' := [.int a2, .int v6]) rfl ?_
        by_cases c7 : v6 = a2
        · rw [if_pos c7] at H
          refine ev_bt hc_X12_refusesLend (fe_X12_refusesLend (pc := 32) rfl) rfl c7 ?_
          refine ev_go hc_X12_refusesLend (k := 2) (pc' := 41) (L' := [.ref a0, .int a1, .int a2]) (S' := [.int ((-3))]) rfl ?_
          obtain rfl := Option.some.inj H
          exact ev_8 hc_X12_refusesLend (fe_X12_refusesLend (pc := 41) rfl) rfl
        · rw [if_neg c7] at H
          refine ev_bf hc_X12_refusesLend (fe_X12_refusesLend (pc := 32) rfl) rfl c7 ?_
          refine ev_go hc_X12_refusesLend (k := 1) (pc' := 41) (L' := [.ref a0, .int a1, .int a2]) (S' := [.int 0]) rfl ?_
          obtain rfl := Option.some.inj H
          exact ev_8 hc_X12_refusesLend (fe_X12_refusesLend (pc := 41) rfl) rfl
      · rw [if_neg c4] at H
        refine ev_bf hc_X12_refusesLend (fe_X12_refusesLend (pc := 16) rfl) rfl c4 ?_
        refine ev_go hc_X12_refusesLend (k := 1) (pc' := 21) (L' := [.ref a0, .int a1, .int a2]) (S' := [.int ((-2))]) rfl ?_
        obtain rfl := Option.some.inj H
        exact ev_8 hc_X12_refusesLend (fe_X12_refusesLend (pc := 21) rfl) rfl
  · rw [if_neg ck] at H; cases H
theorem hc_X12_lend : ci_code (ci_Ms 228) = k_X12_lend := rfl
theorem fe_X12_lend {pc : Nat} {w : Option ci_I} (h : (k_X12_lend)[pc]? = some w) : (k_X12_lend)[pc]? = some w := h
def F_X12_lend (a0 : Nat) (a1 : Int32) (a2 : Int32) (h : ci_H) : Option (Int32 × ci_H) := if kO h a0 = some 12 then ((pF h a0 12 11 (.int 0)).bind fun h1 => (F_X12_refusesLend a0 a1 a2 h1).bind fun q2 => if 0 ≤ q2.1 then ((gR q2.2 a0 12 0).bind fun v4 => (F_X12_remember a0 v4 q2.2).bind fun h5 => (gR h5 a0 12 0).bind fun v6 => (rI h5 v6 (24 + a1)).bind fun v7 => (gR h5 a0 12 0).bind fun v8 => (wI h5 v8 (24 + a1) a2).bind fun h9 => some (v7, h9)) else (some (q2.1, q2.2))) else none
theorem K_X12_lend {a0 : Nat} {a1 : Int32} {a2 : Int32} {h : ci_H} {r : Int32 × ci_H} (H : F_X12_lend a0 a1 a2 h = some r) : kO h a0 = some 12 := by
  unfold F_X12_lend at H
  by_cases c : kO h a0 = some 12
  · exact c
  · rw [if_neg c] at H; cases H
set_option maxHeartbeats 4000000 in
set_option maxRecDepth 20000 in
theorem E_X12_lend {xs : Nat → Int32} {N d : Nat} {nx : ci_N} {a0 : Nat} {a1 : Int32} {a2 : Int32} {h : ci_H} {r : Int32 × ci_H} (H : F_X12_lend a0 a1 a2 h = some r) (hd : 4 ≤ d) : Ev xs N d 228 0 (ci_entry [.ref a0, .int a1, .int a2] 5) [] h nx (oI r nx) := by
  obtain ⟨d, rfl⟩ : ∃ d2, d = d2 + 1 := ⟨d - 1, by omega⟩
  have hd : 3 ≤ d := by omega
  unfold F_X12_lend at H
  by_cases ck : kO h a0 = some 12
  · rw [if_pos ck] at H
    show Ev xs N (d + 1) 228 0 [.ref a0, .int a1, .int a2, ci_junk, ci_junk] [] h nx _
    refine ev_go hc_X12_lend (k := 2) (pc' := 2) (L' := [.ref a0, .int a1, .int a2, ci_junk, ci_junk]) (S' := [.int 0, .ref a0]) rfl ?_
    obtain ⟨h1, eh1, H⟩ := Option.bind_eq_some_iff.mp H
    refine ev_5 hc_X12_lend (fe_X12_lend (pc := 2) rfl) (pF_pf eh1) ?_
    refine ev_go hc_X12_lend (k := 3) (pc' := 8) (L' := [.ref a0, .int a1, .int a2, ci_junk, ci_junk]) (S' := [.int a2, .int a1, .ref a0]) rfl ?_
    obtain ⟨q2, eq2, H⟩ := Option.bind_eq_some_iff.mp H
    refine ev_call (vs := [.ref a0, .int a1, .int a2]) (rest := []) (q := q_X12_refusesLend) hc_X12_lend (Or.inr rfl) (fe_X12_lend (pc := 8) rfl) ms_227 rfl rfl (Nat.le_of_ble_eq_true rfl) (kO_recv (K_X12_refusesLend eq2)) (E_X12_refusesLend eq2 (by omega)) rfl ?_
    show Ev xs N (d + 1) 228 11 [.ref a0, .int a1, .int a2, ci_junk, ci_junk] [.int q2.1] q2.2 nx _
    refine ev_go hc_X12_lend (k := 2) (pc' := 13) (L' := [.ref a0, .int a1, .int a2, .int q2.1, ci_junk]) (S' := [.int q2.1]) rfl ?_
    by_cases c3 : 0 ≤ q2.1
    · rw [if_pos c3] at H
      refine ev_bt hc_X12_lend (fe_X12_lend (pc := 13) rfl) rfl c3 ?_
      refine ev_go hc_X12_lend (k := 2) (pc' := 20) (L' := [.ref a0, .int a1, .int a2, .int q2.1, ci_junk]) (S' := [.ref a0, .ref a0]) rfl ?_
      obtain ⟨v4, ev4, H⟩ := Option.bind_eq_some_iff.mp H
      refine ev_4 hc_X12_lend (fe_X12_lend (pc := 20) rfl) (gR_gf ev4) ?_
      obtain ⟨h5, eh5, H⟩ := Option.bind_eq_some_iff.mp H
      refine ev_call (vs := [.ref a0, .ref v4]) (rest := []) (q := q_X12_remember) hc_X12_lend (Or.inr rfl) (fe_X12_lend (pc := 23) rfl) ms_217 rfl rfl (Nat.le_of_ble_eq_true rfl) (kO_recv (K_X12_remember eh5)) (E_X12_remember eh5 (by omega)) rfl ?_
      show Ev xs N (d + 1) 228 26 [.ref a0, .int a1, .int a2, .int q2.1, ci_junk] [] h5 nx _
      refine ev_go hc_X12_lend (k := 1) (pc' := 27) (L' := [.ref a0, .int a1, .int a2, .int q2.1, ci_junk]) (S' := [.ref a0]) rfl ?_
      obtain ⟨v6, ev6, H⟩ := Option.bind_eq_some_iff.mp H
      refine ev_4 hc_X12_lend (fe_X12_lend (pc := 27) rfl) (gR_gf ev6) ?_
      refine ev_go hc_X12_lend (k := 3) (pc' := 34) (L' := [.ref a0, .int a1, .int a2, .int q2.1, ci_junk]) (S' := [.int (24 + a1), .ref v6]) rfl ?_
      obtain ⟨v7, ev7, H⟩ := Option.bind_eq_some_iff.mp H
      refine ev_4 hc_X12_lend (fe_X12_lend (pc := 34) rfl) (rI_al ev7) ?_
      refine ev_go hc_X12_lend (k := 2) (pc' := 38) (L' := [.ref a0, .int a1, .int a2, .int q2.1, .int v7]) (S' := [.ref a0]) rfl ?_
      obtain ⟨v8, ev8, H⟩ := Option.bind_eq_some_iff.mp H
      refine ev_4 hc_X12_lend (fe_X12_lend (pc := 38) rfl) (gR_gf ev8) ?_
      refine ev_go hc_X12_lend (k := 4) (pc' := 46) (L' := [.ref a0, .int a1, .int a2, .int q2.1, .int v7]) (S' := [.int a2, .int (24 + a1), .ref v8]) rfl ?_
      obtain ⟨h9, eh9, H⟩ := Option.bind_eq_some_iff.mp H
      refine ev_5 hc_X12_lend (fe_X12_lend (pc := 46) rfl) (wI_as eh9) ?_
      refine ev_go hc_X12_lend (k := 1) (pc' := 49) (L' := [.ref a0, .int a1, .int a2, .int q2.1, .int v7]) (S' := [.int v7]) rfl ?_
      obtain rfl := Option.some.inj H
      exact ev_8 hc_X12_lend (fe_X12_lend (pc := 49) rfl) rfl
    · rw [if_neg c3] at H
      refine ev_bf hc_X12_lend (fe_X12_lend (pc := 13) rfl) rfl c3 ?_
      refine ev_go hc_X12_lend (k := 1) (pc' := 17) (L' := [.ref a0, .int a1, .int a2, .int q2.1, ci_junk]) (S' := [.int q2.1]) rfl ?_
      obtain rfl := Option.some.inj H
      exact ev_8 hc_X12_lend (fe_X12_lend (pc := 17) rfl) rfl
  · rw [if_neg ck] at H; cases H
theorem hc_X12_refusesClaim : ci_code (ci_Ms 229) = k_X12_refusesClaim := rfl
theorem fe_X12_refusesClaim {pc : Nat} {w : Option ci_I} (h : (k_X12_refusesClaim)[pc]? = some w) : (k_X12_refusesClaim)[pc]? = some w := h
def F_X12_refusesClaim (a0 : Nat) (a1 : Int32) (a2 : Int32) (h : ci_H) : Option (Int32 × ci_H) := if kO h a0 = some 12 then ((F_X12_areBoth a0 a1 a2 h).bind fun q1 => if q1.1 = 0 then (some ((-1), q1.2)) else ((F_X12_isNobodys a0 a1 q1.2).bind fun q3 => if q3.1 = 0 then ((gR q3.2 a0 12 0).bind fun v5 => (rI q3.2 v5 (24 + a1)).bind fun v6 => if v6 = a2 then (some ((-3), q3.2)) else ((gR q3.2 a0 12 0).bind fun v8 => (rI q3.2 v8 (12 + a1)).bind fun v9 => if v9 = a2 then (some ((-3), q3.2)) else ((gR q3.2 a0 12 0).bind fun v11 => (gR q3.2 a0 12 0).bind fun v12 => (rI q3.2 v12 (24 + a1)).bind fun v13 => (F_X12_breaks a0 v11 v13 q3.2).bind fun q14 => (gR q14.2 a0 12 0).bind fun v15 => (rI q14.2 v15 a1).bind fun v16 => (F_X12_kindsOf a0 v16 q14.2).bind fun q17 => if (q14.1 &&& q17.1) = 0 then (some ((-4), q17.2)) else (some (0, q17.2))))) else (some ((-2), q3.2)))) else none
theorem K_X12_refusesClaim {a0 : Nat} {a1 : Int32} {a2 : Int32} {h : ci_H} {r : Int32 × ci_H} (H : F_X12_refusesClaim a0 a1 a2 h = some r) : kO h a0 = some 12 := by
  unfold F_X12_refusesClaim at H
  by_cases c : kO h a0 = some 12
  · exact c
  · rw [if_neg c] at H; cases H
set_option maxHeartbeats 4000000 in
set_option maxRecDepth 20000 in
theorem E_X12_refusesClaim {xs : Nat → Int32} {N d : Nat} {nx : ci_N} {a0 : Nat} {a1 : Int32} {a2 : Int32} {h : ci_H} {r : Int32 × ci_H} (H : F_X12_refusesClaim a0 a1 a2 h = some r) (hd : 4 ≤ d) : Ev xs N d 229 0 (ci_entry [.ref a0, .int a1, .int a2] 3) [] h nx (oI r nx) := by
  obtain ⟨d, rfl⟩ : ∃ d2, d = d2 + 1 := ⟨d - 1, by omega⟩
  have hd : 3 ≤ d := by omega
  unfold F_X12_refusesClaim at H
  by_cases ck : kO h a0 = some 12
  · rw [if_pos ck] at H
    show Ev xs N (d + 1) 229 0 [.ref a0, .int a1, .int a2] [] h nx _
    refine ev_go hc_X12_refusesClaim (k := 3) (pc' := 3) (L' := [.ref a0, .int a1, .int a2]) (S' := [.int a2, .int a1, .ref a0]) rfl ?_
    obtain ⟨q1, eq1, H⟩ := Option.bind_eq_some_iff.mp H
    refine ev_call (vs := [.ref a0, .int a1, .int a2]) (rest := []) (q := q_X12_areBoth) hc_X12_refusesClaim (Or.inr rfl) (fe_X12_refusesClaim (pc := 3) rfl) ms_218 rfl rfl (Nat.le_of_ble_eq_true rfl) (kO_recv (K_X12_areBoth eq1)) (E_X12_areBoth eq1 (by omega)) rfl ?_
    show Ev xs N (d + 1) 229 6 [.ref a0, .int a1, .int a2] [.int q1.1] q1.2 nx _
    by_cases c2 : q1.1 = 0
    · rw [if_pos c2] at H
      refine ev_bt hc_X12_refusesClaim (fe_X12_refusesClaim (pc := 6) rfl) rfl c2 ?_
      refine ev_go hc_X12_refusesClaim (k := 1) (pc' := 10) (L' := [.ref a0, .int a1, .int a2]) (S' := [.int ((-1))]) rfl ?_
      obtain rfl := Option.some.inj H
      exact ev_8 hc_X12_refusesClaim (fe_X12_refusesClaim (pc := 10) rfl) rfl
    · rw [if_neg c2] at H
      refine ev_bf hc_X12_refusesClaim (fe_X12_refusesClaim (pc := 6) rfl) rfl c2 ?_
      refine ev_go hc_X12_refusesClaim (k := 2) (pc' := 13) (L' := [.ref a0, .int a1, .int a2]) (S' := [.int a1, .ref a0]) rfl ?_
      obtain ⟨q3, eq3, H⟩ := Option.bind_eq_some_iff.mp H
      refine ev_call (vs := [.ref a0, .int a1]) (rest := []) (q := q_X12_isNobodys) hc_X12_refusesClaim (Or.inr rfl) (fe_X12_refusesClaim (pc := 13) rfl) ms_219 rfl rfl (Nat.le_of_ble_eq_true rfl) (kO_recv (K_X12_isNobodys eq3)) (E_X12_isNobodys eq3 (by omega)) rfl ?_
      show Ev xs N (d + 1) 229 16 [.ref a0, .int a1, .int a2] [.int q3.1] q3.2 nx _
      by_cases c4 : q3.1 = 0
      · rw [if_pos c4] at H
        refine ev_bt hc_X12_refusesClaim (fe_X12_refusesClaim (pc := 16) rfl) rfl c4 ?_
        refine ev_go hc_X12_refusesClaim (k := 1) (pc' := 23) (L' := [.ref a0, .int a1, .int a2]) (S' := [.ref a0]) rfl ?_
        obtain ⟨v5, ev5, H⟩ := Option.bind_eq_some_iff.mp H
        refine ev_4 hc_X12_refusesClaim (fe_X12_refusesClaim (pc := 23) rfl) (gR_gf ev5) ?_
        refine ev_go hc_X12_refusesClaim (k := 3) (pc' := 30) (L' := [.ref a0, .int a1, .int a2]) (S' := [.int (24 + a1), .ref v5]) rfl ?_
        obtain ⟨v6, ev6, H⟩ := Option.bind_eq_some_iff.mp H
        refine ev_4 hc_X12_refusesClaim (fe_X12_refusesClaim (pc := 30) rfl) (rI_al ev6) ?_
        refine ev_go hc_X12_refusesClaim (k := 1) (pc' := 32) (L' := [.ref a0, .int a1, .int a2]) (S' := [.int a2, .int v6]) rfl ?_
        by_cases c7 : v6 = a2
        · rw [if_pos c7] at H
          refine ev_bt hc_X12_refusesClaim (fe_X12_refusesClaim (pc := 32) rfl) rfl c7 ?_
          refine ev_go hc_X12_refusesClaim (k := 1) (pc' := 50) (L' := [.ref a0, .int a1, .int a2]) (S' := [.int ((-3))]) rfl ?_
          obtain rfl := Option.some.inj H
          exact ev_8 hc_X12_refusesClaim (fe_X12_refusesClaim (pc := 50) rfl) rfl
        · rw [if_neg c7] at H
          refine ev_bf hc_X12_refusesClaim (fe_X12_refusesClaim (pc := 32) rfl) rfl c7 ?_
          refine ev_go hc_X12_refusesClaim (k := 1) (pc' := 36) (L' := [.ref a0, .int a1, .int a2]) (S' := [.ref a0]) rfl ?_
          obtain ⟨v8, ev8, H⟩ := Option.bind_eq_some_iff.mp H
          refine ev_4 hc_X12_refusesClaim (fe_X12_refusesClaim (pc := 36) rfl) (gR_gf ev8) ?_
          refine ev_go hc_X12_refusesClaim (k := 3) (pc' := 43) (L' := [.ref a0, .int a1, .int a2]) (S' := [.int (12 + a1), .ref v8]) rfl ?_
          obtain ⟨v9, ev9, H⟩ := Option.bind_eq_some_iff.mp H
          refine ev_4 hc_X12_refusesClaim (fe_X12_refusesClaim (pc := 43) rfl) (rI_al ev9) ?_
          refine ev_go hc_X12_refusesClaim (k := 1) (pc' := 45) (L' := [.ref a0, .int a1, .int a2]) (S' := [.int a2, .int v9]) rfl ?_
          by_cases c10 : v9 = a2
          · rw [if_pos c10] at H
            refine ev_bt hc_X12_refusesClaim (fe_X12_refusesClaim (pc := 45) rfl) rfl c10 ?_
            refine ev_go hc_X12_refusesClaim (k := 1) (pc' := 50) (L' := [.ref a0, .int a1, .int a2]) (S' := [.int ((-3))]) rfl ?_
            obtain rfl := Option.some.inj H
            exact ev_8 hc_X12_refusesClaim (fe_X12_refusesClaim (pc := 50) rfl) rfl
          · rw [if_neg c10] at H
            refine ev_bf hc_X12_refusesClaim (fe_X12_refusesClaim (pc := 45) rfl) rfl c10 ?_
            refine ev_go hc_X12_refusesClaim (k := 2) (pc' := 53) (L' := [.ref a0, .int a1, .int a2]) (S' := [.ref a0, .ref a0]) rfl ?_
            obtain ⟨v11, ev11, H⟩ := Option.bind_eq_some_iff.mp H
            refine ev_4 hc_X12_refusesClaim (fe_X12_refusesClaim (pc := 53) rfl) (gR_gf ev11) ?_
            refine ev_go hc_X12_refusesClaim (k := 1) (pc' := 57) (L' := [.ref a0, .int a1, .int a2]) (S' := [.ref a0, .ref v11, .ref a0]) rfl ?_
            obtain ⟨v12, ev12, H⟩ := Option.bind_eq_some_iff.mp H
            refine ev_4 hc_X12_refusesClaim (fe_X12_refusesClaim (pc := 57) rfl) (gR_gf ev12) ?_
            refine ev_go hc_X12_refusesClaim (k := 3) (pc' := 64) (L' := [.ref a0, .int a1, .int a2]) (S' := [.int (24 + a1), .ref v12, .ref v11, .ref a0]) rfl ?_
            obtain ⟨v13, ev13, H⟩ := Option.bind_eq_some_iff.mp H
            refine ev_4 hc_X12_refusesClaim (fe_X12_refusesClaim (pc := 64) rfl) (rI_al ev13) ?_
            obtain ⟨q14, eq14, H⟩ := Option.bind_eq_some_iff.mp H
            refine ev_call (vs := [.ref a0, .ref v11, .int v13]) (rest := []) (q := q_X12_breaks) hc_X12_refusesClaim (Or.inr rfl) (fe_X12_refusesClaim (pc := 65) rfl) ms_206 rfl rfl (Nat.le_of_ble_eq_true rfl) (kO_recv (K_X12_breaks eq14)) (E_X12_breaks eq14 (by omega)) rfl ?_
            show Ev xs N (d + 1) 229 68 [.ref a0, .int a1, .int a2] [.int q14.1] q14.2 nx _
            refine ev_go hc_X12_refusesClaim (k := 2) (pc' := 70) (L' := [.ref a0, .int a1, .int a2]) (S' := [.ref a0, .ref a0, .int q14.1]) rfl ?_
            obtain ⟨v15, ev15, H⟩ := Option.bind_eq_some_iff.mp H
            refine ev_4 hc_X12_refusesClaim (fe_X12_refusesClaim (pc := 70) rfl) (gR_gf ev15) ?_
            refine ev_go hc_X12_refusesClaim (k := 1) (pc' := 74) (L' := [.ref a0, .int a1, .int a2]) (S' := [.int a1, .ref v15, .ref a0, .int q14.1]) rfl ?_
            obtain ⟨v16, ev16, H⟩ := Option.bind_eq_some_iff.mp H
            refine ev_4 hc_X12_refusesClaim (fe_X12_refusesClaim (pc := 74) rfl) (rI_al ev16) ?_
            obtain ⟨q17, eq17, H⟩ := Option.bind_eq_some_iff.mp H
            refine ev_call (vs := [.ref a0, .int v16]) (rest := [.int q14.1]) (q := q_X12_kindsOf) hc_X12_refusesClaim (Or.inr rfl) (fe_X12_refusesClaim (pc := 75) rfl) ms_201 rfl rfl (Nat.le_of_ble_eq_true rfl) (kO_recv (K_X12_kindsOf eq17)) (E_X12_kindsOf eq17 (by omega)) rfl ?_
            show Ev xs N (d + 1) 229 78 [.ref a0, .int a1, .int a2] [.int q17.1, .int q14.1] q17.2 nx _
            refine ev_go hc_X12_refusesClaim (k := 1) (pc' := 79) (L' := [.ref a0, .int a1, .int a2]) (S' := [.int (q14.1 &&& q17.1)]) rfl ?_
            by_cases c18 : (q14.1 &&& q17.1) = 0
            · rw [if_pos c18] at H
              refine ev_bt hc_X12_refusesClaim (fe_X12_refusesClaim (pc := 79) rfl) rfl c18 ?_
              refine ev_go hc_X12_refusesClaim (k := 2) (pc' := 88) (L' := [.ref a0, .int a1, .int a2]) (S' := [.int ((-4))]) rfl ?_
              obtain rfl := Option.some.inj H
              exact ev_8 hc_X12_refusesClaim (fe_X12_refusesClaim (pc := 88) rfl) rfl
            · rw [if_neg c18] at H
              refine ev_bf hc_X12_refusesClaim (fe_X12_refusesClaim (pc := 79) rfl) rfl c18 ?_
              refine ev_go hc_X12_refusesClaim (k := 1) (pc' := 88) (L' := [.ref a0, .int a1, .int a2]) (S' := [.int 0]) rfl ?_
              obtain rfl := Option.some.inj H
              exact ev_8 hc_X12_refusesClaim (fe_X12_refusesClaim (pc := 88) rfl) rfl
      · rw [if_neg c4] at H
        refine ev_bf hc_X12_refusesClaim (fe_X12_refusesClaim (pc := 16) rfl) rfl c4 ?_
        refine ev_go hc_X12_refusesClaim (k := 1) (pc' := 21) (L' := [.ref a0, .int a1, .int a2]) (S' := [.int ((-2))]) rfl ?_
        obtain rfl := Option.some.inj H
        exact ev_8 hc_X12_refusesClaim (fe_X12_refusesClaim (pc := 21) rfl) rfl
  · rw [if_neg ck] at H; cases H
