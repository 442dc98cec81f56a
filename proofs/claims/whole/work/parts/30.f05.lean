theorem hc_X11_fittingHouses : ci_code (ci_Ms 158) = k_X11_fittingHouses := rfl
theorem fe_X11_fittingHouses {pc : Nat} {w : Option ci_I} (h : (k_X11_fittingHouses)[pc]? = some w) : (k_X11_fittingHouses)[pc]? = some w := h
def b_X11_fittingHouses_56 (r_14 : Int32 → Int32 → ci_H → Option (Int32 × ci_H)) (l0 : Nat) (l2 : Int32) (s0 : Int32) (s1 : Int32)  (h : ci_H) : Option (Int32 × ci_H) := r_14 (s0 &&& s1) (l2 + 1) h
set_option maxHeartbeats 4000000 in
set_option maxRecDepth 20000 in
theorem eb_X11_fittingHouses_56 {xs : Nat → Int32} {N d : Nat} {nx : ci_N} {r_14 : Int32 → Int32 → ci_H → Option (Int32 × ci_H)} {l0 : Nat} {l2 : Int32} {s0 : Int32} {s1 : Int32} (hd : 0 ≤ d) (h_14 : ∀ (l1 : Int32) (l2 : Int32) (h : ci_H) (r : Int32 × ci_H), r_14 l1 l2 h = some r → Ev xs N (d + 1) 158 14 [.ref l0, .int l1, .int l2, ci_junk] [] h nx (oI r nx)) {h : ci_H} {r : Int32 × ci_H} (H : b_X11_fittingHouses_56 r_14 l0 l2 s0 s1 h = some r) : Ev xs N (d + 1) 158 56 [.ref l0, ci_junk, .int l2, ci_junk] [.int s1, .int s0] h nx (oI r nx) := by
  unfold b_X11_fittingHouses_56 at H
  refine ev_go hc_X11_fittingHouses (k := 4) (pc' := 14) (L' := [.ref l0, .int (s0 &&& s1), .int (l2 + 1), ci_junk]) (S' := []) rfl ?_
  exact Ev.weak (ci_le_c (Or.inr rfl) (ci_le_c (Or.inr rfl) (ci_le_c (Or.inr rfl) (ci_le_c (Or.inl rfl) (ci_le_n))))) (h_14 _ _ _ _ H)
def b_X11_fittingHouses_14 (l0 : Nat) : Nat → Int32 → Int32 → ci_H → Option (Int32 × ci_H)
  | 0, _, _, _ => none
  | n + 1, l1, l2, h => (gI h l0 11 13).bind fun v1 => if v1 ≤ l2 then (some (l1, h)) else ((gR h l0 11 0).bind fun v3 => (gR h l0 11 11).bind fun v4 => (rI h v4 l2).bind fun v5 => (F_X10_keepersOf v3 ((1 : Int32) <<< (v5 &&& 31)) h).bind fun q6 => (gR q6.2 l0 11 12).bind fun v7 => (rI q6.2 v7 l2).bind fun v8 => if v8 = 1 then (b_X11_fittingHouses_56 (fun x0 x1 x2 => b_X11_fittingHouses_14 l0 n x0 x1 x2) l0 l2 l1 q6.1 q6.2) else (b_X11_fittingHouses_56 (fun x0 x1 x2 => b_X11_fittingHouses_14 l0 n x0 x1 x2) l0 l2 l1 (q6.1 ^^^ ((-1))) q6.2))
set_option maxHeartbeats 4000000 in
set_option maxRecDepth 20000 in
theorem eb_X11_fittingHouses_14 {xs : Nat → Int32} {N d : Nat} {nx : ci_N} {l0 : Nat} (hd : 0 ≤ d) : ∀ (n : Nat) (l1 : Int32) (l2 : Int32) (h : ci_H) (r : Int32 × ci_H), b_X11_fittingHouses_14 l0 n l1 l2 h = some r → Ev xs N (d + 1) 158 14 [.ref l0, .int l1, .int l2, ci_junk] [] h nx (oI r nx) := by
  intro n
  induction n with
  | zero => intro l1 l2 h r H; unfold b_X11_fittingHouses_14 at H; cases H
  | succ n ih =>
    intro l1 l2 h r H
    unfold b_X11_fittingHouses_14 at H
    refine ev_go hc_X11_fittingHouses (k := 2) (pc' := 16) (L' := [.ref l0, .int l1, .int l2, ci_junk]) (S' := [.ref l0, .int l2]) rfl ?_
    obtain ⟨v1, ev1, H⟩ := Option.bind_eq_some_iff.mp H
    refine ev_4 hc_X11_fittingHouses (fe_X11_fittingHouses (pc := 16) rfl) (gI_gf ev1) ?_
    by_cases c2 : v1 ≤ l2
    · rw [if_pos c2] at H
      refine ev_bt hc_X11_fittingHouses (fe_X11_fittingHouses (pc := 19) rfl) rfl c2 ?_
      refine ev_go hc_X11_fittingHouses (k := 1) (pc' := 65) (L' := [.ref l0, .int l1, .int l2, ci_junk]) (S' := [.int l1]) rfl ?_
      obtain rfl := Option.some.inj H
      exact ev_8 hc_X11_fittingHouses (fe_X11_fittingHouses (pc := 65) rfl) rfl
    · rw [if_neg c2] at H
      refine ev_bf hc_X11_fittingHouses (fe_X11_fittingHouses (pc := 19) rfl) rfl c2 ?_
      refine ev_go hc_X11_fittingHouses (k := 1) (pc' := 23) (L' := [.ref l0, .int l1, .int l2, ci_junk]) (S' := [.ref l0]) rfl ?_
      obtain ⟨v3, ev3, H⟩ := Option.bind_eq_some_iff.mp H
      refine ev_4 hc_X11_fittingHouses (fe_X11_fittingHouses (pc := 23) rfl) (gR_gf ev3) ?_
      refine ev_go hc_X11_fittingHouses (k := 2) (pc' := 28) (L' := [.ref l0, .int l1, .int l2, ci_junk]) (S' := [.ref l0, .int 1, .ref v3]) rfl ?_
      obtain ⟨v4, ev4, H⟩ := Option.bind_eq_some_iff.mp H
      refine ev_4 hc_X11_fittingHouses (fe_X11_fittingHouses (pc := 28) rfl) (gR_gf ev4) ?_
      refine ev_go hc_X11_fittingHouses (k := 1) (pc' := 32) (L' := [.ref l0, .int l1, .int l2, ci_junk]) (S' := [.int l2, .ref v4, .int 1, .ref v3]) rfl ?_
      obtain ⟨v5, ev5, H⟩ := Option.bind_eq_some_iff.mp H
      refine ev_4 hc_X11_fittingHouses (fe_X11_fittingHouses (pc := 32) rfl) (rI_al ev5) ?_
      refine ev_go hc_X11_fittingHouses (k := 1) (pc' := 34) (L' := [.ref l0, .int l1, .int l2, ci_junk]) (S' := [.int ((1 : Int32) <<< (v5 &&& 31)), .ref v3]) rfl ?_
      obtain ⟨q6, eq6, H⟩ := Option.bind_eq_some_iff.mp H
      refine ev_call (vs := [.ref v3, .int ((1 : Int32) <<< (v5 &&& 31))]) (rest := []) (q := q_X10_keepersOf) hc_X11_fittingHouses (Or.inr rfl) (fe_X11_fittingHouses (pc := 34) rfl) ms_79 rfl rfl (Nat.le_of_ble_eq_true rfl) (kO_recv (K_X10_keepersOf eq6)) (E_X10_keepersOf eq6 (by omega)) rfl ?_
      show Ev xs N (d + 1) 158 37 [.ref l0, .int l1, .int l2, ci_junk] [.int q6.1] q6.2 nx _
      refine ev_go hc_X11_fittingHouses (k := 3) (pc' := 40) (L' := [.ref l0, .int l1, .int l2, .int q6.1]) (S' := [.ref l0, .int l1]) rfl ?_
      obtain ⟨v7, ev7, H⟩ := Option.bind_eq_some_iff.mp H
      refine ev_4 hc_X11_fittingHouses (fe_X11_fittingHouses (pc := 40) rfl) (gR_gf ev7) ?_
      refine ev_go hc_X11_fittingHouses (k := 1) (pc' := 44) (L' := [.ref l0, .int l1, .int l2, .int q6.1]) (S' := [.int l2, .ref v7, .int l1]) rfl ?_
      obtain ⟨v8, ev8, H⟩ := Option.bind_eq_some_iff.mp H
      refine ev_4 hc_X11_fittingHouses (fe_X11_fittingHouses (pc := 44) rfl) (rI_al ev8) ?_
      refine ev_go hc_X11_fittingHouses (k := 1) (pc' := 46) (L' := [.ref l0, .int l1, .int l2, .int q6.1]) (S' := [.int 1, .int v8, .int l1]) rfl ?_
      by_cases c9 : v8 = 1
      · rw [if_pos c9] at H
        refine ev_bt hc_X11_fittingHouses (fe_X11_fittingHouses (pc := 46) rfl) rfl c9 ?_
        refine ev_go hc_X11_fittingHouses (k := 2) (pc' := 56) (L' := [.ref l0, .int l1, .int l2, .int q6.1]) (S' := [.int q6.1, .int l1]) rfl ?_
        exact Ev.weak (ci_le_c (Or.inr rfl) (ci_le_c (Or.inl rfl) (ci_le_c (Or.inr rfl) (ci_le_c (Or.inl rfl) (ci_le_n))))) (eb_X11_fittingHouses_56 hd ih H)
      · rw [if_neg c9] at H
        refine ev_bf hc_X11_fittingHouses (fe_X11_fittingHouses (pc := 46) rfl) rfl c9 ?_
        refine ev_go hc_X11_fittingHouses (k := 3) (pc' := 56) (L' := [.ref l0, .int l1, .int l2, .int q6.1]) (S' := [.int (q6.1 ^^^ ((-1))), .int l1]) rfl ?_
        exact Ev.weak (ci_le_c (Or.inr rfl) (ci_le_c (Or.inl rfl) (ci_le_c (Or.inr rfl) (ci_le_c (Or.inl rfl) (ci_le_n))))) (eb_X11_fittingHouses_56 hd ih H)
def F_X11_fittingHouses (a0 : Nat) (h : ci_H) : Option (Int32 × ci_H) := if kO h a0 = some 11 then ((gR h a0 11 0).bind fun v1 => (gI h v1 10 5).bind fun v2 => b_X11_fittingHouses_14 a0 bigN (((1 : Int32) <<< (v2 &&& 31)) - 1) 0 h) else none
theorem K_X11_fittingHouses {a0 : Nat} {h : ci_H} {r : Int32 × ci_H} (H : F_X11_fittingHouses a0 h = some r) : kO h a0 = some 11 := by
  unfold F_X11_fittingHouses at H
  by_cases c : kO h a0 = some 11
  · exact c
  · rw [if_neg c] at H; cases H
set_option maxHeartbeats 4000000 in
set_option maxRecDepth 20000 in
theorem E_X11_fittingHouses {xs : Nat → Int32} {N d : Nat} {nx : ci_N} {a0 : Nat} {h : ci_H} {r : Int32 × ci_H} (H : F_X11_fittingHouses a0 h = some r) (hd : 1 ≤ d) : Ev xs N d 158 0 (ci_entry [.ref a0] 4) [] h nx (oI r nx) := by
  obtain ⟨d, rfl⟩ : ∃ d2, d = d2 + 1 := ⟨d - 1, by omega⟩
  have hd : 0 ≤ d := by omega
  unfold F_X11_fittingHouses at H
  by_cases ck : kO h a0 = some 11
  · rw [if_pos ck] at H
    show Ev xs N (d + 1) 158 0 [.ref a0, ci_junk, ci_junk, ci_junk] [] h nx _
    refine ev_go hc_X11_fittingHouses (k := 2) (pc' := 2) (L' := [.ref a0, ci_junk, ci_junk, ci_junk]) (S' := [.ref a0, .int 1]) rfl ?_
    obtain ⟨v1, ev1, H⟩ := Option.bind_eq_some_iff.mp H
    refine ev_4 hc_X11_fittingHouses (fe_X11_fittingHouses (pc := 2) rfl) (gR_gf ev1) ?_
    obtain ⟨v2, ev2, H⟩ := Option.bind_eq_some_iff.mp H
    refine ev_4 hc_X11_fittingHouses (fe_X11_fittingHouses (pc := 5) rfl) (gI_gf ev2) ?_
    refine ev_go hc_X11_fittingHouses (k := 6) (pc' := 14) (L' := [.ref a0, .int (((1 : Int32) <<< (v2 &&& 31)) - 1), .int 0, ci_junk]) (S' := []) rfl ?_
    exact Ev.weak (ci_le_c (Or.inr rfl) (ci_le_c (Or.inr rfl) (ci_le_c (Or.inr rfl) (ci_le_c (Or.inl rfl) (ci_le_n))))) (eb_X11_fittingHouses_14 hd bigN _ _ _ _ H)
  · rw [if_neg ck] at H; cases H
theorem hc_X11_whose : ci_code (ci_Ms 134) = k_X11_whose := rfl
theorem fe_X11_whose {pc : Nat} {w : Option ci_I} (h : (k_X11_whose)[pc]? = some w) : (k_X11_whose)[pc]? = some w := h
def F_X11_whose (a0 : Nat) (h : ci_H) : Option (Int32 × ci_H) := if kO h a0 = some 11 then ((F_X11_fittingHouses a0 h).bind fun q1 => (F_J6_bitCount_0f7a4 q1.1 q1.2).bind fun q2 => (F_X11_tellOne a0 ((q2.1 : Int32).toInt64) q2.2).bind fun h3 => some (q1.1, h3)) else none
theorem K_X11_whose {a0 : Nat} {h : ci_H} {r : Int32 × ci_H} (H : F_X11_whose a0 h = some r) : kO h a0 = some 11 := by
  unfold F_X11_whose at H
  by_cases c : kO h a0 = some 11
  · exact c
  · rw [if_neg c] at H; cases H
set_option maxHeartbeats 4000000 in
set_option maxRecDepth 20000 in
theorem E_X11_whose {xs : Nat → Int32} {N d : Nat} {nx : ci_N} {a0 : Nat} {h : ci_H} {r : Int32 × ci_H} (H : F_X11_whose a0 h = some r) (hd : 2 ≤ d) : Ev xs N d 134 0 (ci_entry [.ref a0] 2) [] h nx (oI r nx) := by
  obtain ⟨d, rfl⟩ : ∃ d2, d = d2 + 1 := ⟨d - 1, by omega⟩
  have hd : 1 ≤ d := by omega
  unfold F_X11_whose at H
  by_cases ck : kO h a0 = some 11
  · rw [if_pos ck] at H
    show Ev xs N (d + 1) 134 0 [.ref a0, ci_junk] [] h nx _
    refine ev_go hc_X11_whose (k := 1) (pc' := 1) (L' := [.ref a0, ci_junk]) (S' := [.ref a0]) rfl ?_
    obtain ⟨q1, eq1, H⟩ := Option.bind_eq_some_iff.mp H
    refine ev_call (vs := [.ref a0]) (rest := []) (q := q_X11_fittingHouses) hc_X11_whose (Or.inr rfl) (fe_X11_whose (pc := 1) rfl) ms_158 rfl rfl (Nat.le_of_ble_eq_true rfl) (kO_recv (K_X11_fittingHouses eq1)) (E_X11_fittingHouses eq1 (by omega)) rfl ?_
    show Ev xs N (d + 1) 134 4 [.ref a0, ci_junk] [.int q1.1] q1.2 nx _
    refine ev_go hc_X11_whose (k := 3) (pc' := 7) (L' := [.ref a0, .int q1.1]) (S' := [.int q1.1, .ref a0]) rfl ?_
    obtain ⟨q2, eq2, H⟩ := Option.bind_eq_some_iff.mp H
    refine ev_call (vs := [.int q1.1]) (rest := [.ref a0]) (q := q_J6_bitCount_0f7a4) hc_X11_whose (Or.inl rfl) (fe_X11_whose (pc := 7) rfl) ms_285 rfl rfl (Nat.le_of_ble_eq_true rfl) rfl (E_J6_bitCount_0f7a4 eq2 (by omega)) rfl ?_
    show Ev xs N (d + 1) 134 10 [.ref a0, .int q1.1] [.int q2.1, .ref a0] q2.2 nx _
    refine ev_go hc_X11_whose (k := 1) (pc' := 11) (L' := [.ref a0, .int q1.1]) (S' := [.long ((q2.1 : Int32).toInt64), .ref a0]) rfl ?_
    obtain ⟨h3, eh3, H⟩ := Option.bind_eq_some_iff.mp H
    refine ev_call (vs := [.ref a0, .long ((q2.1 : Int32).toInt64)]) (rest := []) (q := q_X11_tellOne) hc_X11_whose (Or.inr rfl) (fe_X11_whose (pc := 11) rfl) ms_147 rfl rfl (Nat.le_of_ble_eq_true rfl) (kO_recv (K_X11_tellOne eh3)) (E_X11_tellOne eh3 (by omega)) rfl ?_
    show Ev xs N (d + 1) 134 14 [.ref a0, .int q1.1] [] h3 nx _
    refine ev_go hc_X11_whose (k := 1) (pc' := 15) (L' := [.ref a0, .int q1.1]) (S' := [.int q1.1]) rfl ?_
    obtain rfl := Option.some.inj H
    exact ev_8 hc_X11_whose (fe_X11_whose (pc := 15) rfl) rfl
  · rw [if_neg ck] at H; cases H
theorem hc_X11_ask : ci_code (ci_Ms 135) = k_X11_ask := rfl
theorem fe_X11_ask {pc : Nat} {w : Option ci_I} (h : (k_X11_ask)[pc]? = some w) : (k_X11_ask)[pc]? = some w := h
def b_X11_ask_91 (r_36 : Int32 → Int32 → Int32 → ci_H → Option (Int32 × ci_H)) (l0 : Nat) (l1 : Int32) (l2 : Int32) (l3 : Int32) (l4 : Int32) (l5 : Int32)  (h : ci_H) : Option (Int32 × ci_H) := r_36 l3 l4 (l5 + 1) h
set_option maxHeartbeats 4000000 in
set_option maxRecDepth 20000 in
theorem eb_X11_ask_91 {xs : Nat → Int32} {N d : Nat} {nx : ci_N} {r_36 : Int32 → Int32 → Int32 → ci_H → Option (Int32 × ci_H)} {l0 : Nat} {l1 : Int32} {l2 : Int32} {l3 : Int32} {l4 : Int32} {l5 : Int32} (hd : 1 ≤ d) (h_36 : ∀ (l3 : Int32) (l4 : Int32) (l5 : Int32) (h : ci_H) (r : Int32 × ci_H), r_36 l3 l4 l5 h = some r → Ev xs N (d + 1) 135 36 [.ref l0, .int l1, .int l2, .int l3, .int l4, .int l5, ci_junk, ci_junk] [] h nx (oI r nx)) {h : ci_H} {r : Int32 × ci_H} (H : b_X11_ask_91 r_36 l0 l1 l2 l3 l4 l5 h = some r) : Ev xs N (d + 1) 135 91 [.ref l0, .int l1, .int l2, .int l3, .int l4, .int l5, ci_junk, ci_junk] [] h nx (oI r nx) := by
  unfold b_X11_ask_91 at H
  refine ev_go hc_X11_ask (k := 2) (pc' := 36) (L' := [.ref l0, .int l1, .int l2, .int l3, .int l4, .int (l5 + 1), ci_junk, ci_junk]) (S' := []) rfl ?_
  exact Ev.weak (ci_le_c (Or.inr rfl) (ci_le_c (Or.inr rfl) (ci_le_c (Or.inr rfl) (ci_le_c (Or.inr rfl) (ci_le_c (Or.inr rfl) (ci_le_c (Or.inr rfl) (ci_le_c (Or.inl rfl) (ci_le_c (Or.inl rfl) (ci_le_n))))))))) (h_36 _ _ _ _ _ H)
def b_X11_ask_36 (l0 : Nat) (l1 : Int32) (l2 : Int32) : Nat → Int32 → Int32 → Int32 → ci_H → Option (Int32 × ci_H)
  | 0, _, _, _, _ => none
  | n + 1, l3, l4, l5, h => (gR h l0 11 0).bind fun v1 => (gI h v1 10 6).bind fun v2 => if v2 ≤ l5 then ((F_X11_tellOne l0 ((l4 : Int32).toInt64) h).bind fun h4 => some (l3, h4)) else ((gR h l0 11 0).bind fun v5 => (F_X10_keepersOf v5 ((1 : Int32) <<< (l5 &&& 31)) h).bind fun q6 => (F_J6_bitCount_0f7a4 (l1 &&& q6.1) q6.2).bind fun q7 => if l4 ≤ (if q7.1 < (l2 - q7.1) then l2 - q7.1 else q7.1) then (b_X11_ask_91 (fun x0 x1 x2 x3 => b_X11_ask_36 l0 l1 l2 n x0 x1 x2 x3) l0 l1 l2 l3 l4 l5 q7.2) else (b_X11_ask_91 (fun x0 x1 x2 x3 => b_X11_ask_36 l0 l1 l2 n x0 x1 x2 x3) l0 l1 l2 l5 (if q7.1 < (l2 - q7.1) then l2 - q7.1 else q7.1) l5 q7.2))
set_option maxHeartbeats 4000000 in
set_option maxRecDepth 20000 in
theorem eb_X11_ask_36 {xs : Nat → Int32} {N d : Nat} {nx : ci_N} {l0 : Nat} {l1 : Int32} {l2 : Int32} (hd : 1 ≤ d) : ∀ (n : Nat) (l3 : Int32) (l4 : Int32) (l5 : Int32) (h : ci_H) (r : Int32 × ci_H), b_X11_ask_36 l0 l1 l2 n l3 l4 l5 h = some r → Ev xs N (d + 1) 135 36 [.ref l0, .int l1, .int l2, .int l3, .int l4, .int l5, ci_junk, ci_junk] [] h nx (oI r nx) := by
  intro n
  induction n with
  | zero => intro l3 l4 l5 h r H; unfold b_X11_ask_36 at H; cases H
  | succ n ih =>
    intro l3 l4 l5 h r H
    unfold b_X11_ask_36 at H
    refine ev_go hc_X11_ask (k := 2) (pc' := 39) (L' := [.ref l0, .int l1, .int l2, .int l3, .int l4, .int l5, ci_junk, ci_junk]) (S' := [.ref l0, .int l5]) rfl ?_
    obtain ⟨v1, ev1, H⟩ := Option.bind_eq_some_iff.mp H
    refine ev_4 hc_X11_ask (fe_X11_ask (pc := 39) rfl) (gR_gf ev1) ?_
    obtain ⟨v2, ev2, H⟩ := Option.bind_eq_some_iff.mp H
    refine ev_4 hc_X11_ask (fe_X11_ask (pc := 42) rfl) (gI_gf ev2) ?_
    by_cases c3 : v2 ≤ l5
    · rw [if_pos c3] at H
      refine ev_bt hc_X11_ask (fe_X11_ask (pc := 45) rfl) rfl c3 ?_
      refine ev_go hc_X11_ask (k := 3) (pc' := 101) (L' := [.ref l0, .int l1, .int l2, .int l3, .int l4, .int l5, ci_junk, ci_junk]) (S' := [.long ((l4 : Int32).toInt64), .ref l0]) rfl ?_
      obtain ⟨h4, eh4, H⟩ := Option.bind_eq_some_iff.mp H
      refine ev_call (vs := [.ref l0, .long ((l4 : Int32).toInt64)]) (rest := []) (q := q_X11_tellOne) hc_X11_ask (Or.inr rfl) (fe_X11_ask (pc := 101) rfl) ms_147 rfl rfl (Nat.le_of_ble_eq_true rfl) (kO_recv (K_X11_tellOne eh4)) (E_X11_tellOne eh4 (by omega)) rfl ?_
      show Ev xs N (d + 1) 135 104 [.ref l0, .int l1, .int l2, .int l3, .int l4, .int l5, ci_junk, ci_junk] [] h4 nx _
      refine ev_go hc_X11_ask (k := 1) (pc' := 105) (L' := [.ref l0, .int l1, .int l2, .int l3, .int l4, .int l5, ci_junk, ci_junk]) (S' := [.int l3]) rfl ?_
      obtain rfl := Option.some.inj H
      exact ev_8 hc_X11_ask (fe_X11_ask (pc := 105) rfl) rfl
    · rw [if_neg c3] at H
      refine ev_bf hc_X11_ask (fe_X11_ask (pc := 45) rfl) rfl c3 ?_
      refine ev_go hc_X11_ask (k := 2) (pc' := 50) (L' := [.ref l0, .int l1, .int l2, .int l3, .int l4, .int l5, ci_junk, ci_junk]) (S' := [.ref l0, .int l1]) rfl ?_
      obtain ⟨v5, ev5, H⟩ := Option.bind_eq_some_iff.mp H
      refine ev_4 hc_X11_ask (fe_X11_ask (pc := 50) rfl) (gR_gf ev5) ?_
      refine ev_go hc_X11_ask (k := 3) (pc' := 57) (L' := [.ref l0, .int l1, .int l2, .int l3, .int l4, .int l5, ci_junk, ci_junk]) (S' := [.int ((1 : Int32) <<< (l5 &&& 31)), .ref v5, .int l1]) rfl ?_
      obtain ⟨q6, eq6, H⟩ := Option.bind_eq_some_iff.mp H
      refine ev_call (vs := [.ref v5, .int ((1 : Int32) <<< (l5 &&& 31))]) (rest := [.int l1]) (q := q_X10_keepersOf) hc_X11_ask (Or.inr rfl) (fe_X11_ask (pc := 57) rfl) ms_79 rfl rfl (Nat.le_of_ble_eq_true rfl) (kO_recv (K_X10_keepersOf eq6)) (E_X10_keepersOf eq6 (by omega)) rfl ?_
      show Ev xs N (d + 1) 135 60 [.ref l0, .int l1, .int l2, .int l3, .int l4, .int l5, ci_junk, ci_junk] [.int q6.1, .int l1] q6.2 nx _
      refine ev_go hc_X11_ask (k := 1) (pc' := 61) (L' := [.ref l0, .int l1, .int l2, .int l3, .int l4, .int l5, ci_junk, ci_junk]) (S' := [.int (l1 &&& q6.1)]) rfl ?_
      obtain ⟨q7, eq7, H⟩ := Option.bind_eq_some_iff.mp H
      refine ev_call (vs := [.int (l1 &&& q6.1)]) (rest := []) (q := q_J6_bitCount_0f7a4) hc_X11_ask (Or.inl rfl) (fe_X11_ask (pc := 61) rfl) ms_285 rfl rfl (Nat.le_of_ble_eq_true rfl) rfl (E_J6_bitCount_0f7a4 eq7 (by omega)) rfl ?_
      show Ev xs N (d + 1) 135 64 [.ref l0, .int l1, .int l2, .int l3, .int l4, .int l5, ci_junk, ci_junk] [.int q7.1] q7.2 nx _
      refine ev_go hc_X11_ask (k := 5) (pc' := 72) (L' := [.ref l0, .int l1, .int l2, .int l3, .int l4, .int l5, .int q7.1, ci_junk]) (S' := [.int (l2 - q7.1), .int q7.1]) rfl ?_
      refine ev_15 hc_X11_ask (fe_X11_ask (pc := 72) rfl) (S' := [.int (if q7.1 < (l2 - q7.1) then l2 - q7.1 else q7.1)]) rfl ?_
      refine ev_go hc_X11_ask (k := 3) (pc' := 81) (L' := [.ref l0, .int l1, .int l2, .int l3, .int l4, .int l5, .int q7.1, .int (if q7.1 < (l2 - q7.1) then l2 - q7.1 else q7.1)]) (S' := [.int l4, .int (if q7.1 < (l2 - q7.1) then l2 - q7.1 else q7.1)]) rfl ?_
      by_cases c8 : l4 ≤ (if q7.1 < (l2 - q7.1) then l2 - q7.1 else q7.1)
      · rw [if_pos c8] at H
        refine ev_bt hc_X11_ask (fe_X11_ask (pc := 81) rfl) rfl c8 ?_
        exact Ev.weak (ci_le_c (Or.inr rfl) (ci_le_c (Or.inr rfl) (ci_le_c (Or.inr rfl) (ci_le_c (Or.inr rfl) (ci_le_c (Or.inr rfl) (ci_le_c (Or.inr rfl) (ci_le_c (Or.inl rfl) (ci_le_c (Or.inl rfl) (ci_le_n))))))))) (eb_X11_ask_91 hd ih H)
      · rw [if_neg c8] at H
        refine ev_bf hc_X11_ask (fe_X11_ask (pc := 81) rfl) rfl c8 ?_
        refine ev_go hc_X11_ask (k := 4) (pc' := 91) (L' := [.ref l0, .int l1, .int l2, .int l5, .int (if q7.1 < (l2 - q7.1) then l2 - q7.1 else q7.1), .int l5, .int q7.1, .int (if q7.1 < (l2 - q7.1) then l2 - q7.1 else q7.1)]) (S' := []) rfl ?_
        exact Ev.weak (ci_le_c (Or.inr rfl) (ci_le_c (Or.inr rfl) (ci_le_c (Or.inr rfl) (ci_le_c (Or.inr rfl) (ci_le_c (Or.inr rfl) (ci_le_c (Or.inr rfl) (ci_le_c (Or.inl rfl) (ci_le_c (Or.inl rfl) (ci_le_n))))))))) (eb_X11_ask_91 hd ih H)
def F_X11_ask (a0 : Nat) (h : ci_H) : Option (Int32 × ci_H) := if kO h a0 = some 11 then ((F_X11_fittingHouses a0 h).bind fun q1 => if q1.1 = 0 then (some ((-2), q1.2)) else ((gR q1.2 a0 11 0).bind fun v3 => (gI q1.2 v3 10 6).bind fun v4 => if v4 = 0 then (some ((-2), q1.2)) else ((F_J6_bitCount_0f7a4 q1.1 q1.2).bind fun q6 => b_X11_ask_36 a0 q1.1 q6.1 bigN 0 6 0 q6.2))) else none
theorem K_X11_ask {a0 : Nat} {h : ci_H} {r : Int32 × ci_H} (H : F_X11_ask a0 h = some r) : kO h a0 = some 11 := by
  unfold F_X11_ask at H
  by_cases c : kO h a0 = some 11
  · exact c
  · rw [if_neg c] at H; cases H
set_option maxHeartbeats 4000000 in
set_option maxRecDepth 20000 in
theorem E_X11_ask {xs : Nat → Int32} {N d : Nat} {nx : ci_N} {a0 : Nat} {h : ci_H} {r : Int32 × ci_H} (H : F_X11_ask a0 h = some r) (hd : 2 ≤ d) : Ev xs N d 135 0 (ci_entry [.ref a0] 8) [] h nx (oI r nx) := by
  obtain ⟨d, rfl⟩ : ∃ d2, d = d2 + 1 := ⟨d - 1, by omega⟩
  have hd : 1 ≤ d := by omega
  unfold F_X11_ask at H
  by_cases ck : kO h a0 = some 11
  · rw [if_pos ck] at H
    show Ev xs N (d + 1) 135 0 [.ref a0, ci_junk, ci_junk, ci_junk, ci_junk, ci_junk, ci_junk, ci_junk] [] h nx _
    refine ev_go hc_X11_ask (k := 1) (pc' := 1) (L' := [.ref a0, ci_junk, ci_junk, ci_junk, ci_junk, ci_junk, ci_junk, ci_junk]) (S' := [.ref a0]) rfl ?_
    obtain ⟨q1, eq1, H⟩ := Option.bind_eq_some_iff.mp H
    refine ev_call (vs := [.ref a0]) (rest := []) (q := q_X11_fittingHouses) hc_X11_ask (Or.inr rfl) (fe_X11_ask (pc := 1) rfl) ms_158 rfl rfl (Nat.le_of_ble_eq_true rfl) (kO_recv (K_X11_fittingHouses eq1)) (E_X11_fittingHouses eq1 (by omega)) rfl ?_
    show Ev xs N (d + 1) 135 4 [.ref a0, ci_junk, ci_junk, ci_junk, ci_junk, ci_junk, ci_junk, ci_junk] [.int q1.1] q1.2 nx _
    refine ev_go hc_X11_ask (k := 2) (pc' := 6) (L' := [.ref a0, .int q1.1, ci_junk, ci_junk, ci_junk, ci_junk, ci_junk, ci_junk]) (S' := [.int q1.1]) rfl ?_
    by_cases c2 : q1.1 = 0
    · rw [if_pos c2] at H
      refine ev_bt hc_X11_ask (fe_X11_ask (pc := 6) rfl) rfl c2 ?_
      refine ev_go hc_X11_ask (k := 1) (pc' := 21) (L' := [.ref a0, .int q1.1, ci_junk, ci_junk, ci_junk, ci_junk, ci_junk, ci_junk]) (S' := [.int ((-2))]) rfl ?_
      obtain rfl := Option.some.inj H
      exact ev_8 hc_X11_ask (fe_X11_ask (pc := 21) rfl) rfl
    · rw [if_neg c2] at H
      refine ev_bf hc_X11_ask (fe_X11_ask (pc := 6) rfl) rfl c2 ?_
      refine ev_go hc_X11_ask (k := 1) (pc' := 10) (L' := [.ref a0, .int q1.1, ci_junk, ci_junk, ci_junk, ci_junk, ci_junk, ci_junk]) (S' := [.ref a0]) rfl ?_
      obtain ⟨v3, ev3, H⟩ := Option.bind_eq_some_iff.mp H
      refine ev_4 hc_X11_ask (fe_X11_ask (pc := 10) rfl) (gR_gf ev3) ?_
      obtain ⟨v4, ev4, H⟩ := Option.bind_eq_some_iff.mp H
      refine ev_4 hc_X11_ask (fe_X11_ask (pc := 13) rfl) (gI_gf ev4) ?_
      by_cases c5 : v4 = 0
      · rw [if_pos c5] at H
        refine ev_bt hc_X11_ask (fe_X11_ask (pc := 16) rfl) rfl c5 ?_
        refine ev_go hc_X11_ask (k := 1) (pc' := 21) (L' := [.ref a0, .int q1.1, ci_junk, ci_junk, ci_junk, ci_junk, ci_junk, ci_junk]) (S' := [.int ((-2))]) rfl ?_
        obtain rfl := Option.some.inj H
        exact ev_8 hc_X11_ask (fe_X11_ask (pc := 21) rfl) rfl
      · rw [if_neg c5] at H
        refine ev_bf hc_X11_ask (fe_X11_ask (pc := 16) rfl) rfl c5 ?_
        refine ev_go hc_X11_ask (k := 1) (pc' := 23) (L' := [.ref a0, .int q1.1, ci_junk, ci_junk, ci_junk, ci_junk, ci_junk, ci_junk]) (S' := [.int q1.1]) rfl ?_
        obtain ⟨q6, eq6, H⟩ := Option.bind_eq_some_iff.mp H
        refine ev_call (vs := [.int q1.1]) (rest := []) (q := q_J6_bitCount_0f7a4) hc_X11_ask (Or.inl rfl) (fe_X11_ask (pc := 23) rfl) ms_285 rfl rfl (Nat.le_of_ble_eq_true rfl) rfl (E_J6_bitCount_0f7a4 eq6 (by omega)) rfl ?_
        show Ev xs N (d + 1) 135 26 [.ref a0, .int q1.1, ci_junk, ci_junk, ci_junk, ci_junk, ci_junk, ci_junk] [.int q6.1] q6.2 nx _
        refine ev_go hc_X11_ask (k := 7) (pc' := 36) (L' := [.ref a0, .int q1.1, .int q6.1, .int 0, .int 6, .int 0, ci_junk, ci_junk]) (S' := []) rfl ?_
        exact Ev.weak (ci_le_c (Or.inr rfl) (ci_le_c (Or.inr rfl) (ci_le_c (Or.inr rfl) (ci_le_c (Or.inr rfl) (ci_le_c (Or.inr rfl) (ci_le_c (Or.inr rfl) (ci_le_c (Or.inl rfl) (ci_le_c (Or.inl rfl) (ci_le_n))))))))) (eb_X11_ask_36 hd bigN _ _ _ _ _ H)
  · rw [if_neg ck] at H; cases H
theorem hc_X11_power : ci_code (ci_Ms 160) = k_X11_power := rfl
theorem fe_X11_power {pc : Nat} {w : Option ci_I} (h : (k_X11_power)[pc]? = some w) : (k_X11_power)[pc]? = some w := h
def b_X11_power_4 (l0 : Int32) (l1 : Int32) : Nat → Int32 → Int32 → ci_H → Option (Int32 × ci_H)
  | 0, _, _, _ => none
  | n + 1, l2, l3, h => if l1 ≤ l3 then (some (l2, h)) else (b_X11_power_4 l0 l1 n (l2 * l0) (l3 + 1) h)
set_option maxHeartbeats 4000000 in
set_option maxRecDepth 20000 in
theorem eb_X11_power_4 {xs : Nat → Int32} {N d : Nat} {nx : ci_N} {l0 : Int32} {l1 : Int32} : ∀ (n : Nat) (l2 : Int32) (l3 : Int32) (h : ci_H) (r : Int32 × ci_H), b_X11_power_4 l0 l1 n l2 l3 h = some r → Ev xs N d 160 4 [.int l0, .int l1, .int l2, .int l3] [] h nx (oI r nx) := by
  intro n
  induction n with
  | zero => intro l2 l3 h r H; unfold b_X11_power_4 at H; cases H
  | succ n ih =>
    intro l2 l3 h r H
    unfold b_X11_power_4 at H
    refine ev_go hc_X11_power (k := 2) (pc' := 6) (L' := [.int l0, .int l1, .int l2, .int l3]) (S' := [.int l1, .int l3]) rfl ?_
    by_cases c1 : l1 ≤ l3
    · rw [if_pos c1] at H
      refine ev_bt hc_X11_power (fe_X11_power (pc := 6) rfl) rfl c1 ?_
      refine ev_go hc_X11_power (k := 1) (pc' := 20) (L' := [.int l0, .int l1, .int l2, .int l3]) (S' := [.int l2]) rfl ?_
      obtain rfl := Option.some.inj H
      exact ev_8 hc_X11_power (fe_X11_power (pc := 20) rfl) rfl
    · rw [if_neg c1] at H
      refine ev_bf hc_X11_power (fe_X11_power (pc := 6) rfl) rfl c1 ?_
      refine ev_go hc_X11_power (k := 6) (pc' := 4) (L' := [.int l0, .int l1, .int (l2 * l0), .int (l3 + 1)]) (S' := []) rfl ?_
      exact Ev.weak (ci_le_c (Or.inr rfl) (ci_le_c (Or.inr rfl) (ci_le_c (Or.inr rfl) (ci_le_c (Or.inr rfl) (ci_le_n))))) (ih _ _ _ _ H)
def F_X11_power (a0 : Int32) (a1 : Int32) (h : ci_H) : Option (Int32 × ci_H) := b_X11_power_4 a0 a1 bigN 1 0 h
set_option maxHeartbeats 4000000 in
set_option maxRecDepth 20000 in
theorem E_X11_power {xs : Nat → Int32} {N d : Nat} {nx : ci_N} {a0 : Int32} {a1 : Int32} {h : ci_H} {r : Int32 × ci_H} (H : F_X11_power a0 a1 h = some r) (hd : 0 ≤ d) : Ev xs N d 160 0 (ci_entry [.int a0, .int a1] 4) [] h nx (oI r nx) := by
  unfold F_X11_power at H
  show Ev xs N d 160 0 [.int a0, .int a1, ci_junk, ci_junk] [] h nx _
  refine ev_go hc_X11_power (k := 4) (pc' := 4) (L' := [.int a0, .int a1, .int 1, .int 0]) (S' := []) rfl ?_
  exact Ev.weak (ci_le_c (Or.inr rfl) (ci_le_c (Or.inr rfl) (ci_le_c (Or.inr rfl) (ci_le_c (Or.inr rfl) (ci_le_n))))) (eb_X11_power_4 bigN _ _ _ _ H)
theorem hc_X11_likely : ci_code (ci_Ms 159) = k_X11_likely := rfl
theorem fe_X11_likely {pc : Nat} {w : Option ci_I} (h : (k_X11_likely)[pc]? = some w) : (k_X11_likely)[pc]? = some w := h
def F_X11_likely (a0 : Nat) (a1 : Int32) (a2 : Int32) (a3 : Int32) (h : ci_H) : Option (Int32 × ci_H) := if kO h a0 = some 11 then ((gR h a0 11 0).bind fun v1 => (gR h v1 10 1).bind fun v2 => (rI h v2 a2).bind fun v3 => (gR h a0 11 0).bind fun v4 => (gR h v4 10 2).bind fun v5 => (rI h v5 a2).bind fun v6 => (gR h a0 11 0).bind fun v7 => (gR h v7 10 0).bind fun v8 => (gR h v8 6 2).bind fun v9 => (rI h v9 a1).bind fun v10 => (gR h a0 11 0).bind fun v11 => (gR h v11 10 1).bind fun v12 => (rI h v12 a2).bind fun v13 => (F_J6_bitCount_0f7a4 ((v3 ||| v6) &&& ((v10 ^^^ v13) ^^^ ((-1)))) h).bind fun q14 => (F_J6_bitCount_0f7a4 (v3 ||| v6) q14.2).bind fun q15 => (F_X11_power a3 q14.1 q15.2).bind fun q16 => (F_X11_power (10 - a3) (q15.1 - q14.1) q16.2).bind fun q17 => some (q16.1 * q17.1, q17.2)) else none
theorem K_X11_likely {a0 : Nat} {a1 : Int32} {a2 : Int32} {a3 : Int32} {h : ci_H} {r : Int32 × ci_H} (H : F_X11_likely a0 a1 a2 a3 h = some r) : kO h a0 = some 11 := by
  unfold F_X11_likely at H
  by_cases c : kO h a0 = some 11
  · exact c
  · rw [if_neg c] at H; cases H
set_option maxHeartbeats 4000000 in
set_option maxRecDepth 20000 in
theorem E_X11_likely {xs : Nat → Int32} {N d : Nat} {nx : ci_N} {a0 : Nat} {a1 : Int32} {a2 : Int32} {a3 : Int32} {h : ci_H} {r : Int32 × ci_H} (H : F_X11_likely a0 a1 a2 a3 h = some r) (hd : 1 ≤ d) : Ev xs N d 159 0 (ci_entry [.ref a0, .int a1, .int a2, .int a3] 7) [] h nx (oI r nx) := by
  obtain ⟨d, rfl⟩ : ∃ d2, d = d2 + 1 := ⟨d - 1, by omega⟩
  have hd : 0 ≤ d := by omega
  unfold F_X11_likely at H
  by_cases ck : kO h a0 = some 11
  · rw [if_pos ck] at H
    show Ev xs N (d + 1) 159 0 [.ref a0, .int a1, .int a2, .int a3, ci_junk, ci_junk, ci_junk] [] h nx _
    refine ev_go hc_X11_likely (k := 1) (pc' := 1) (L' := [.ref a0, .int a1, .int a2, .int a3, ci_junk, ci_junk, ci_junk]) (S' := [.ref a0]) rfl ?_
    obtain ⟨v1, ev1, H⟩ := Option.bind_eq_some_iff.mp H
    refine ev_4 hc_X11_likely (fe_X11_likely (pc := 1) rfl) (gR_gf ev1) ?_
    obtain ⟨v2, ev2, H⟩ := Option.bind_eq_some_iff.mp H
    refine ev_4 hc_X11_likely (fe_X11_likely (pc := 4) rfl) (gR_gf ev2) ?_
    refine ev_go hc_X11_likely (k := 1) (pc' := 8) (L' := [.ref a0, .int a1, .int a2, .int a3, ci_junk, ci_junk, ci_junk]) (S' := [.int a2, .ref v2]) rfl ?_
    obtain ⟨v3, ev3, H⟩ := Option.bind_eq_some_iff.mp H
    refine ev_4 hc_X11_likely (fe_X11_likely (pc := 8) rfl) (rI_al ev3) ?_
    refine ev_go hc_X11_likely (k := 1) (pc' := 10) (L' := [.ref a0, .int a1, .int a2, .int a3, ci_junk, ci_junk, ci_junk]) (S' := [.ref a0, .int v3]) rfl ?_
    obtain ⟨v4, ev4, H⟩ := Option.bind_eq_some_iff.mp H
    refine ev_4 hc_X11_likely (fe_X11_likely (pc := 10) rfl) (gR_gf ev4) ?_
    obtain ⟨v5, ev5, H⟩ := Option.bind_eq_some_iff.mp H
    refine ev_4 hc_X11_likely (fe_X11_likely (pc := 13) rfl) (gR_gf ev5) ?_
    refine ev_go hc_X11_likely (k := 1) (pc' := 17) (L' := [.ref a0, .int a1, .int a2, .int a3, ci_junk, ci_junk, ci_junk]) (S' := [.int a2, .ref v5, .int v3]) rfl ?_
    obtain ⟨v6, ev6, H⟩ := Option.bind_eq_some_iff.mp H
    refine ev_4 hc_X11_likely (fe_X11_likely (pc := 17) rfl) (rI_al ev6) ?_
    refine ev_go hc_X11_likely (k := 4) (pc' := 24) (L' := [.ref a0, .int a1, .int a2, .int a3, .int (v3 ||| v6), ci_junk, ci_junk]) (S' := [.ref a0, .int (v3 ||| v6)]) rfl ?_
    obtain ⟨v7, ev7, H⟩ := Option.bind_eq_some_iff.mp H
    refine ev_4 hc_X11_likely (fe_X11_likely (pc := 24) rfl) (gR_gf ev7) ?_
    obtain ⟨v8, ev8, H⟩ := Option.bind_eq_some_iff.mp H
    refine ev_4 hc_X11_likely (fe_X11_likely (pc := 27) rfl) (gR_gf ev8) ?_
    obtain ⟨v9, ev9, H⟩ := Option.bind_eq_some_iff.mp H
    refine ev_4 hc_X11_likely (fe_X11_likely (pc := 30) rfl) (gR_gf ev9) ?_
    refine ev_go hc_X11_likely (k := 1) (pc' := 34) (L' := [.ref a0, .int a1, .int a2, .int a3, .int (v3 ||| v6), ci_junk, ci_junk]) (S' := [.int a1, .ref v9, .int (v3 ||| v6)]) rfl ?_
    obtain ⟨v10, ev10, H⟩ := Option.bind_eq_some_iff.mp H
    refine ev_4 hc_X11_likely (fe_X11_likely (pc := 34) rfl) (rI_al ev10) ?_
    refine ev_go hc_X11_likely (k := 1) (pc' := 36) (L' := [.ref a0, .int a1, .int a2, .int a3, .int (v3 ||| v6), ci_junk, ci_junk]) (S' := [.ref a0, .int v10, .int (v3 ||| v6)]) rfl ?_
    obtain ⟨v11, ev11, H⟩ := Option.bind_eq_some_iff.mp H
    refine ev_4 hc_X11_likely (fe_X11_likely (pc := 36) rfl) (gR_gf ev11) ?_
    obtain ⟨v12, ev12, H⟩ := Option.bind_eq_some_iff.mp H
    refine ev_4 hc_X11_likely (fe_X11_likely (pc := 39) rfl) (gR_gf ev12) ?_
    refine ev_go hc_X11_likely (k := 1) (pc' := 43) (L' := [.ref a0, .int a1, .int a2, .int a3, .int (v3 ||| v6), ci_junk, ci_junk]) (S' := [.int a2, .ref v12, .int v10, .int (v3 ||| v6)]) rfl ?_
    obtain ⟨v13, ev13, H⟩ := Option.bind_eq_some_iff.mp H
    refine ev_4 hc_X11_likely (fe_X11_likely (pc := 43) rfl) (rI_al ev13) ?_
    refine ev_go hc_X11_likely (k := 4) (pc' := 48) (L' := [.ref a0, .int a1, .int a2, .int a3, .int (v3 ||| v6), ci_junk, ci_junk]) (S' := [.int ((v3 ||| v6) &&& ((v10 ^^^ v13) ^^^ ((-1))))]) rfl ?_
    obtain ⟨q14, eq14, H⟩ := Option.bind_eq_some_iff.mp H
    refine ev_call (vs := [.int ((v3 ||| v6) &&& ((v10 ^^^ v13) ^^^ ((-1))))]) (rest := []) (q := q_J6_bitCount_0f7a4) hc_X11_likely (Or.inl rfl) (fe_X11_likely (pc := 48) rfl) ms_285 rfl rfl (Nat.le_of_ble_eq_true rfl) rfl (E_J6_bitCount_0f7a4 eq14 (by omega)) rfl ?_
    show Ev xs N (d + 1) 159 51 [.ref a0, .int a1, .int a2, .int a3, .int (v3 ||| v6), ci_junk, ci_junk] [.int q14.1] q14.2 nx _
    refine ev_go hc_X11_likely (k := 2) (pc' := 55) (L' := [.ref a0, .int a1, .int a2, .int a3, .int (v3 ||| v6), .int q14.1, ci_junk]) (S' := [.int (v3 ||| v6)]) rfl ?_
    obtain ⟨q15, eq15, H⟩ := Option.bind_eq_some_iff.mp H
    refine ev_call (vs := [.int (v3 ||| v6)]) (rest := []) (q := q_J6_bitCount_0f7a4) hc_X11_likely (Or.inl rfl) (fe_X11_likely (pc := 55) rfl) ms_285 rfl rfl (Nat.le_of_ble_eq_true rfl) rfl (E_J6_bitCount_0f7a4 eq15 (by omega)) rfl ?_
    show Ev xs N (d + 1) 159 58 [.ref a0, .int a1, .int a2, .int a3, .int (v3 ||| v6), .int q14.1, ci_junk] [.int q15.1] q15.2 nx _
    refine ev_go hc_X11_likely (k := 5) (pc' := 66) (L' := [.ref a0, .int a1, .int a2, .int a3, .int (v3 ||| v6), .int q14.1, .int (q15.1 - q14.1)]) (S' := [.int q14.1, .int a3]) rfl ?_
    obtain ⟨q16, eq16, H⟩ := Option.bind_eq_some_iff.mp H
    refine ev_call (vs := [.int a3, .int q14.1]) (rest := []) (q := q_X11_power) hc_X11_likely (Or.inl rfl) (fe_X11_likely (pc := 66) rfl) ms_160 rfl rfl (Nat.le_of_ble_eq_true rfl) rfl (E_X11_power eq16 (by omega)) rfl ?_
    show Ev xs N (d + 1) 159 69 [.ref a0, .int a1, .int a2, .int a3, .int (v3 ||| v6), .int q14.1, .int (q15.1 - q14.1)] [.int q16.1] q16.2 nx _
    refine ev_go hc_X11_likely (k := 4) (pc' := 75) (L' := [.ref a0, .int a1, .int a2, .int a3, .int (v3 ||| v6), .int q14.1, .int (q15.1 - q14.1)]) (S' := [.int (q15.1 - q14.1), .int (10 - a3), .int q16.1]) rfl ?_
    obtain ⟨q17, eq17, H⟩ := Option.bind_eq_some_iff.mp H
    refine ev_call (vs := [.int (10 - a3), .int (q15.1 - q14.1)]) (rest := [.int q16.1]) (q := q_X11_power) hc_X11_likely (Or.inl rfl) (fe_X11_likely (pc := 75) rfl) ms_160 rfl rfl (Nat.le_of_ble_eq_true rfl) rfl (E_X11_power eq17 (by omega)) rfl ?_
    show Ev xs N (d + 1) 159 78 [.ref a0, .int a1, .int a2, .int a3, .int (v3 ||| v6), .int q14.1, .int (q15.1 - q14.1)] [.int q17.1, .int q16.1] q17.2 nx _
    refine ev_go hc_X11_likely (k := 1) (pc' := 79) (L' := [.ref a0, .int a1, .int a2, .int a3, .int (v3 ||| v6), .int q14.1, .int (q15.1 - q14.1)]) (S' := [.int (q16.1 * q17.1)]) rfl ?_
    obtain rfl := Option.some.inj H
    exact ev_8 hc_X11_likely (fe_X11_likely (pc := 79) rfl) rfl
  · rw [if_neg ck] at H; cases H
theorem hc_X11_commonDivisor : ci_code (ci_Ms 161) = k_X11_commonDivisor := rfl
theorem fe_X11_commonDivisor {pc : Nat} {w : Option ci_I} (h : (k_X11_commonDivisor)[pc]? = some w) : (k_X11_commonDivisor)[pc]? = some w := h
def b_X11_commonDivisor_34 (l2 : Int32)  (h : ci_H) : Option (Int32 × ci_H) := some (if 1 < l2 then l2 else 1, h)
set_option maxHeartbeats 4000000 in
set_option maxRecDepth 20000 in
theorem eb_X11_commonDivisor_34 {xs : Nat → Int32} {N d : Nat} {nx : ci_N} {l2 : Int32} {h : ci_H} {r : Int32 × ci_H} (H : b_X11_commonDivisor_34 l2 h = some r) : Ev xs N d 161 34 [ci_junk, ci_junk, .int l2, ci_junk, ci_junk, ci_junk] [] h nx (oI r nx) := by
  unfold b_X11_commonDivisor_34 at H
  refine ev_go hc_X11_commonDivisor (k := 2) (pc' := 36) (L' := [ci_junk, ci_junk, .int l2, ci_junk, ci_junk, ci_junk]) (S' := [.int l2, .int 1]) rfl ?_
  refine ev_15 hc_X11_commonDivisor (fe_X11_commonDivisor (pc := 36) rfl) (S' := [.int (if 1 < l2 then l2 else 1)]) rfl ?_
  obtain rfl := Option.some.inj H
  exact ev_8 hc_X11_commonDivisor (fe_X11_commonDivisor (pc := 39) rfl) rfl
def b_X11_commonDivisor_7  : Nat → Int32 → Int32 → Int32 → ci_H → Option (Int32 × ci_H)
  | 0, _, _, _, _ => none
  | n + 1, l2, l3, l4, h => if 64 ≤ l4 then (b_X11_commonDivisor_34 l2 h) else (if l3 = 0 then (b_X11_commonDivisor_34 l2 h) else ((rmI l2 l3).bind fun v3 => b_X11_commonDivisor_7 n l3 v3 (l4 + 1) h))
set_option maxHeartbeats 4000000 in
set_option maxRecDepth 20000 in
theorem eb_X11_commonDivisor_7 {xs : Nat → Int32} {N d : Nat} {nx : ci_N} : ∀ (n : Nat) (l2 : Int32) (l3 : Int32) (l4 : Int32) (h : ci_H) (r : Int32 × ci_H), b_X11_commonDivisor_7 n l2 l3 l4 h = some r → Ev xs N d 161 7 [ci_junk, ci_junk, .int l2, .int l3, .int l4, ci_junk] [] h nx (oI r nx) := by
  intro n
  induction n with
  | zero => intro l2 l3 l4 h r H; unfold b_X11_commonDivisor_7 at H; cases H
  | succ n ih =>
    intro l2 l3 l4 h r H
    unfold b_X11_commonDivisor_7 at H
    refine ev_go hc_X11_commonDivisor (k := 2) (pc' := 11) (L' := [ci_junk, ci_junk, .int l2, .int l3, .int l4, ci_junk]) (S' := [.int 64, .int l4]) rfl ?_
    by_cases c1 : 64 ≤ l4
    · rw [if_pos c1] at H
      refine ev_bt hc_X11_commonDivisor (fe_X11_commonDivisor (pc := 11) rfl) rfl c1 ?_
      exact Ev.weak (ci_le_c (Or.inl rfl) (ci_le_c (Or.inl rfl) (ci_le_c (Or.inr rfl) (ci_le_c (Or.inl rfl) (ci_le_c (Or.inl rfl) (ci_le_c (Or.inl rfl) (ci_le_n))))))) (eb_X11_commonDivisor_34 H)
    · rw [if_neg c1] at H
      refine ev_bf hc_X11_commonDivisor (fe_X11_commonDivisor (pc := 11) rfl) rfl c1 ?_
      refine ev_go hc_X11_commonDivisor (k := 1) (pc' := 15) (L' := [ci_junk, ci_junk, .int l2, .int l3, .int l4, ci_junk]) (S' := [.int l3]) rfl ?_
      by_cases c2 : l3 = 0
      · rw [if_pos c2] at H
        refine ev_bt hc_X11_commonDivisor (fe_X11_commonDivisor (pc := 15) rfl) rfl c2 ?_
        exact Ev.weak (ci_le_c (Or.inl rfl) (ci_le_c (Or.inl rfl) (ci_le_c (Or.inr rfl) (ci_le_c (Or.inl rfl) (ci_le_c (Or.inl rfl) (ci_le_c (Or.inl rfl) (ci_le_n))))))) (eb_X11_commonDivisor_34 H)
      · rw [if_neg c2] at H
        refine ev_bf hc_X11_commonDivisor (fe_X11_commonDivisor (pc := 15) rfl) rfl c2 ?_
        refine ev_go hc_X11_commonDivisor (k := 2) (pc' := 20) (L' := [ci_junk, ci_junk, .int l2, .int l3, .int l4, ci_junk]) (S' := [.int l3, .int l2]) rfl ?_
        obtain ⟨v3, ev3, H⟩ := Option.bind_eq_some_iff.mp H
        refine ev_1 hc_X11_commonDivisor (fe_X11_commonDivisor (pc := 20) rfl) (rmI_st ev3) ?_
        refine ev_go hc_X11_commonDivisor (k := 7) (pc' := 7) (L' := [ci_junk, ci_junk, .int l3, .int v3, .int (l4 + 1), .int v3]) (S' := []) rfl ?_
        exact Ev.weak (ci_le_c (Or.inl rfl) (ci_le_c (Or.inl rfl) (ci_le_c (Or.inr rfl) (ci_le_c (Or.inr rfl) (ci_le_c (Or.inr rfl) (ci_le_c (Or.inl rfl) (ci_le_n))))))) (ih _ _ _ _ _ H)
def F_X11_commonDivisor (a0 : Int32) (a1 : Int32) (h : ci_H) : Option (Int32 × ci_H) := b_X11_commonDivisor_7 bigN a0 a1 0 h
set_option maxHeartbeats 4000000 in
set_option maxRecDepth 20000 in
theorem E_X11_commonDivisor {xs : Nat → Int32} {N d : Nat} {nx : ci_N} {a0 : Int32} {a1 : Int32} {h : ci_H} {r : Int32 × ci_H} (H : F_X11_commonDivisor a0 a1 h = some r) (hd : 0 ≤ d) : Ev xs N d 161 0 (ci_entry [.int a0, .int a1] 6) [] h nx (oI r nx) := by
  unfold F_X11_commonDivisor at H
  show Ev xs N d 161 0 [.int a0, .int a1, ci_junk, ci_junk, ci_junk, ci_junk] [] h nx _
  refine ev_go hc_X11_commonDivisor (k := 6) (pc' := 7) (L' := [.int a0, .int a1, .int a0, .int a1, .int 0, ci_junk]) (S' := []) rfl ?_
  exact Ev.weak (ci_le_c (Or.inl rfl) (ci_le_c (Or.inl rfl) (ci_le_c (Or.inr rfl) (ci_le_c (Or.inr rfl) (ci_le_c (Or.inr rfl) (ci_le_c (Or.inl rfl) (ci_le_n))))))) (eb_X11_commonDivisor_7 bigN _ _ _ _ _ H)
theorem hc_X11_seen : ci_code (ci_Ms 136) = k_X11_seen := rfl
theorem fe_X11_seen {pc : Nat} {w : Option ci_I} (h : (k_X11_seen)[pc]? = some w) : (k_X11_seen)[pc]? = some w := h
def F_X11_seen (a0 : Nat) (a1 : Int32) (a2 : Int32) (a3 : Int32) (h : ci_H) : Option (Int32 × ci_H) := if kO h a0 = some 11 then ((gR h a0 11 0).bind fun v1 => (F_X10_hasThing v1 a1 h).bind fun q2 => if q2.1 = 0 then (some ((-1), q2.2)) else ((gR q2.2 a0 11 0).bind fun v4 => (F_X10_hasKind v4 a2 q2.2).bind fun q5 => if q5.1 = 0 then (some ((-1), q5.2)) else (if a3 < 0 then (some ((-1), q5.2)) else (if a3 ≤ 10 then ((F_X11_likely a0 a1 a2 a3 q5.2).bind fun q9 => (gR q9.2 a0 11 0).bind fun v10 => (F_X10_namedBy v10 a2 q9.2).bind fun q11 => (F_X11_power 10 q11.1 q11.2).bind fun q12 => (F_X11_commonDivisor q9.1 q12.1 q12.2).bind fun q13 => (dvI q9.1 q13.1).bind fun v14 => (dvI q12.1 q13.1).bind fun v15 => (F_X11_tellTwo a0 ((v14 : Int32).toInt64) ((v15 : Int32).toInt64) q13.2).bind fun h16 => some (0, h16)) else (some ((-1), q5.2)))))) else none
theorem K_X11_seen {a0 : Nat} {a1 : Int32} {a2 : Int32} {a3 : Int32} {h : ci_H} {r : Int32 × ci_H} (H : F_X11_seen a0 a1 a2 a3 h = some r) : kO h a0 = some 11 := by
  unfold F_X11_seen at H
  by_cases c : kO h a0 = some 11
  · exact c
  · rw [if_neg c] at H; cases H
set_option maxHeartbeats 4000000 in
set_option maxRecDepth 20000 in
theorem E_X11_seen {xs : Nat → Int32} {N d : Nat} {nx : ci_N} {a0 : Nat} {a1 : Int32} {a2 : Int32} {a3 : Int32} {h : ci_H} {r : Int32 × ci_H} (H : F_X11_seen a0 a1 a2 a3 h = some r) (hd : 2 ≤ d) : Ev xs N d 136 0 (ci_entry [.ref a0, .int a1, .int a2, .int a3] 7) [] h nx (oI r nx) := by
  obtain ⟨d, rfl⟩ : ∃ d2, d = d2 + 1 := ⟨d - 1, by omega⟩
  have hd : 1 ≤ d := by omega
  unfold F_X11_seen at H
  by_cases ck : kO h a0 = some 11
  · rw [if_pos ck] at H
    show Ev xs N (d + 1) 136 0 [.ref a0, .int a1, .int a2, .int a3, ci_junk, ci_junk, ci_junk] [] h nx _
    refine ev_go hc_X11_seen (k := 1) (pc' := 1) (L' := [.ref a0, .int a1, .int a2, .int a3, ci_junk, ci_junk, ci_junk]) (S' := [.ref a0]) rfl ?_
    obtain ⟨v1, ev1, H⟩ := Option.bind_eq_some_iff.mp H
    refine ev_4 hc_X11_seen (fe_X11_seen (pc := 1) rfl) (gR_gf ev1) ?_
    refine ev_go hc_X11_seen (k := 1) (pc' := 5) (L' := [.ref a0, .int a1, .int a2, .int a3, ci_junk, ci_junk, ci_junk]) (S' := [.int a1, .ref v1]) rfl ?_
    obtain ⟨q2, eq2, H⟩ := Option.bind_eq_some_iff.mp H
    refine ev_call (vs := [.ref v1, .int a1]) (rest := []) (q := q_X10_hasThing) hc_X11_seen (Or.inr rfl) (fe_X11_seen (pc := 5) rfl) ms_63 rfl rfl (Nat.le_of_ble_eq_true rfl) (kO_recv (K_X10_hasThing eq2)) (E_X10_hasThing eq2 (by omega)) rfl ?_
    show Ev xs N (d + 1) 136 8 [.ref a0, .int a1, .int a2, .int a3, ci_junk, ci_junk, ci_junk] [.int q2.1] q2.2 nx _
    by_cases c3 : q2.1 = 0
    · rw [if_pos c3] at H
      refine ev_bt hc_X11_seen (fe_X11_seen (pc := 8) rfl) rfl c3 ?_
      refine ev_go hc_X11_seen (k := 1) (pc' := 33) (L' := [.ref a0, .int a1, .int a2, .int a3, ci_junk, ci_junk, ci_junk]) (S' := [.int ((-1))]) rfl ?_
      obtain rfl := Option.some.inj H
      exact ev_8 hc_X11_seen (fe_X11_seen (pc := 33) rfl) rfl
    · rw [if_neg c3] at H
      refine ev_bf hc_X11_seen (fe_X11_seen (pc := 8) rfl) rfl c3 ?_
      refine ev_go hc_X11_seen (k := 1) (pc' := 12) (L' := [.ref a0, .int a1, .int a2, .int a3, ci_junk, ci_junk, ci_junk]) (S' := [.ref a0]) rfl ?_
      obtain ⟨v4, ev4, H⟩ := Option.bind_eq_some_iff.mp H
      refine ev_4 hc_X11_seen (fe_X11_seen (pc := 12) rfl) (gR_gf ev4) ?_
      refine ev_go hc_X11_seen (k := 1) (pc' := 16) (L' := [.ref a0, .int a1, .int a2, .int a3, ci_junk, ci_junk, ci_junk]) (S' := [.int a2, .ref v4]) rfl ?_
      obtain ⟨q5, eq5, H⟩ := Option.bind_eq_some_iff.mp H
      refine ev_call (vs := [.ref v4, .int a2]) (rest := []) (q := q_X10_hasKind) hc_X11_seen (Or.inr rfl) (fe_X11_seen (pc := 16) rfl) ms_64 rfl rfl (Nat.le_of_ble_eq_true rfl) (kO_recv (K_X10_hasKind eq5)) (E_X10_hasKind eq5 (by omega)) rfl ?_
      show Ev xs N (d + 1) 136 19 [.ref a0, .int a1, .int a2, .int a3, ci_junk, ci_junk, ci_junk] [.int q5.1] q5.2 nx _
      by_cases c6 : q5.1 = 0
      · rw [if_pos c6] at H
        refine ev_bt hc_X11_seen (fe_X11_seen (pc := 19) rfl) rfl c6 ?_
        refine ev_go hc_X11_seen (k := 1) (pc' := 33) (L' := [.ref a0, .int a1, .int a2, .int a3, ci_junk, ci_junk, ci_junk]) (S' := [.int ((-1))]) rfl ?_
        obtain rfl := Option.some.inj H
        exact ev_8 hc_X11_seen (fe_X11_seen (pc := 33) rfl) rfl
      · rw [if_neg c6] at H
        refine ev_bf hc_X11_seen (fe_X11_seen (pc := 19) rfl) rfl c6 ?_
        refine ev_go hc_X11_seen (k := 1) (pc' := 23) (L' := [.ref a0, .int a1, .int a2, .int a3, ci_junk, ci_junk, ci_junk]) (S' := [.int a3]) rfl ?_
        by_cases c7 : a3 < 0
        · rw [if_pos c7] at H
          refine ev_bt hc_X11_seen (fe_X11_seen (pc := 23) rfl) rfl c7 ?_
          refine ev_go hc_X11_seen (k := 1) (pc' := 33) (L' := [.ref a0, .int a1, .int a2, .int a3, ci_junk, ci_junk, ci_junk]) (S' := [.int ((-1))]) rfl ?_
          obtain rfl := Option.some.inj H
          exact ev_8 hc_X11_seen (fe_X11_seen (pc := 33) rfl) rfl
        · rw [if_neg c7] at H
          refine ev_bf hc_X11_seen (fe_X11_seen (pc := 23) rfl) rfl c7 ?_
          refine ev_go hc_X11_seen (k := 2) (pc' := 29) (L' := [.ref a0, .int a1, .int a2, .int a3, ci_junk, ci_junk, ci_junk]) (S' := [.int 10, .int a3]) rfl ?_
          by_cases c8 : a3 ≤ 10
          · rw [if_pos c8] at H
            refine ev_bt hc_X11_seen (fe_X11_seen (pc := 29) rfl) rfl c8 ?_
            refine ev_go hc_X11_seen (k := 4) (pc' := 38) (L' := [.ref a0, .int a1, .int a2, .int a3, ci_junk, ci_junk, ci_junk]) (S' := [.int a3, .int a2, .int a1, .ref a0]) rfl ?_
            obtain ⟨q9, eq9, H⟩ := Option.bind_eq_some_iff.mp H
            refine ev_call (vs := [.ref a0, .int a1, .int a2, .int a3]) (rest := []) (q := q_X11_likely) hc_X11_seen (Or.inr rfl) (fe_X11_seen (pc := 38) rfl) ms_159 rfl rfl (Nat.le_of_ble_eq_true rfl) (kO_recv (K_X11_likely eq9)) (E_X11_likely eq9 (by omega)) rfl ?_
            show Ev xs N (d + 1) 136 41 [.ref a0, .int a1, .int a2, .int a3, ci_junk, ci_junk, ci_junk] [.int q9.1] q9.2 nx _
            refine ev_go hc_X11_seen (k := 3) (pc' := 46) (L' := [.ref a0, .int a1, .int a2, .int a3, .int q9.1, ci_junk, ci_junk]) (S' := [.ref a0, .int 10]) rfl ?_
            obtain ⟨v10, ev10, H⟩ := Option.bind_eq_some_iff.mp H
            refine ev_4 hc_X11_seen (fe_X11_seen (pc := 46) rfl) (gR_gf ev10) ?_
            refine ev_go hc_X11_seen (k := 1) (pc' := 50) (L' := [.ref a0, .int a1, .int a2, .int a3, .int q9.1, ci_junk, ci_junk]) (S' := [.int a2, .ref v10, .int 10]) rfl ?_
            obtain ⟨q11, eq11, H⟩ := Option.bind_eq_some_iff.mp H
            refine ev_call (vs := [.ref v10, .int a2]) (rest := [.int 10]) (q := q_X10_namedBy) hc_X11_seen (Or.inr rfl) (fe_X11_seen (pc := 50) rfl) ms_72 rfl rfl (Nat.le_of_ble_eq_true rfl) (kO_recv (K_X10_namedBy eq11)) (E_X10_namedBy eq11 (by omega)) rfl ?_
            show Ev xs N (d + 1) 136 53 [.ref a0, .int a1, .int a2, .int a3, .int q9.1, ci_junk, ci_junk] [.int q11.1, .int 10] q11.2 nx _
            obtain ⟨q12, eq12, H⟩ := Option.bind_eq_some_iff.mp H
            refine ev_call (vs := [.int 10, .int q11.1]) (rest := []) (q := q_X11_power) hc_X11_seen (Or.inl rfl) (fe_X11_seen (pc := 53) rfl) ms_160 rfl rfl (Nat.le_of_ble_eq_true rfl) rfl (E_X11_power eq12 (by omega)) rfl ?_
            show Ev xs N (d + 1) 136 56 [.ref a0, .int a1, .int a2, .int a3, .int q9.1, ci_junk, ci_junk] [.int q12.1] q12.2 nx _
            refine ev_go hc_X11_seen (k := 3) (pc' := 62) (L' := [.ref a0, .int a1, .int a2, .int a3, .int q9.1, .int q12.1, ci_junk]) (S' := [.int q12.1, .int q9.1]) rfl ?_
            obtain ⟨q13, eq13, H⟩ := Option.bind_eq_some_iff.mp H
            refine ev_call (vs := [.int q9.1, .int q12.1]) (rest := []) (q := q_X11_commonDivisor) hc_X11_seen (Or.inl rfl) (fe_X11_seen (pc := 62) rfl) ms_161 rfl rfl (Nat.le_of_ble_eq_true rfl) rfl (E_X11_commonDivisor eq13 (by omega)) rfl ?_
            show Ev xs N (d + 1) 136 65 [.ref a0, .int a1, .int a2, .int a3, .int q9.1, .int q12.1, ci_junk] [.int q13.1] q13.2 nx _
            refine ev_go hc_X11_seen (k := 4) (pc' := 72) (L' := [.ref a0, .int a1, .int a2, .int a3, .int q9.1, .int q12.1, .int q13.1]) (S' := [.int q13.1, .int q9.1, .ref a0]) rfl ?_
            obtain ⟨v14, ev14, H⟩ := Option.bind_eq_some_iff.mp H
            refine ev_1 hc_X11_seen (fe_X11_seen (pc := 72) rfl) (dvI_st ev14) ?_
            refine ev_go hc_X11_seen (k := 3) (pc' := 78) (L' := [.ref a0, .int a1, .int a2, .int a3, .int q9.1, .int q12.1, .int q13.1]) (S' := [.int q13.1, .int q12.1, .long ((v14 : Int32).toInt64), .ref a0]) rfl ?_
            obtain ⟨v15, ev15, H⟩ := Option.bind_eq_some_iff.mp H
            refine ev_1 hc_X11_seen (fe_X11_seen (pc := 78) rfl) (dvI_st ev15) ?_
            refine ev_go hc_X11_seen (k := 1) (pc' := 80) (L' := [.ref a0, .int a1, .int a2, .int a3, .int q9.1, .int q12.1, .int q13.1]) (S' := [.long ((v15 : Int32).toInt64), .long ((v14 : Int32).toInt64), .ref a0]) rfl ?_
            obtain ⟨h16, eh16, H⟩ := Option.bind_eq_some_iff.mp H
            refine ev_call (vs := [.ref a0, .long ((v14 : Int32).toInt64), .long ((v15 : Int32).toInt64)]) (rest := []) (q := q_X11_tellTwo) hc_X11_seen (Or.inr rfl) (fe_X11_seen (pc := 80) rfl) ms_148 rfl rfl (Nat.le_of_ble_eq_true rfl) (kO_recv (K_X11_tellTwo eh16)) (E_X11_tellTwo eh16 (by omega)) rfl ?_
            show Ev xs N (d + 1) 136 83 [.ref a0, .int a1, .int a2, .int a3, .int q9.1, .int q12.1, .int q13.1] [] h16 nx _
            refine ev_go hc_X11_seen (k := 1) (pc' := 84) (L' := [.ref a0, .int a1, .int a2, .int a3, .int q9.1, .int q12.1, .int q13.1]) (S' := [.int 0]) rfl ?_
            obtain rfl := Option.some.inj H
            exact ev_8 hc_X11_seen (fe_X11_seen (pc := 84) rfl) rfl
          · rw [if_neg c8] at H
            refine ev_bf hc_X11_seen (fe_X11_seen (pc := 29) rfl) rfl c8 ?_
            refine ev_go hc_X11_seen (k := 1) (pc' := 33) (L' := [.ref a0, .int a1, .int a2, .int a3, ci_junk, ci_junk, ci_junk]) (S' := [.int ((-1))]) rfl ?_
            obtain rfl := Option.some.inj H
            exact ev_8 hc_X11_seen (fe_X11_seen (pc := 33) rfl) rfl
  · rw [if_neg ck] at H; cases H
theorem hc_X11_startChances : ci_code (ci_Ms 162) = k_X11_startChances := rfl
theorem fe_X11_startChances {pc : Nat} {w : Option ci_I} (h : (k_X11_startChances)[pc]? = some w) : (k_X11_startChances)[pc]? = some w := h
def b_X11_startChances_2 (l0 : Nat) : Nat → Int32 → ci_H → Option (ci_H)
  | 0, _, _ => none
  | n + 1, l1, h => if 12 < l1 then ((gR h l0 11 18).bind fun v2 => (wL h v2 0 (Int64.ofNat 1000000)).bind fun h3 => some h3) else ((gR h l0 11 18).bind fun v4 => (wL h v4 l1 (Int64.ofNat 0)).bind fun h5 => b_X11_startChances_2 l0 n (l1 + 1) h5)
set_option maxHeartbeats 4000000 in
set_option maxRecDepth 20000 in
theorem eb_X11_startChances_2 {xs : Nat → Int32} {N d : Nat} {nx : ci_N} {l0 : Nat} : ∀ (n : Nat) (l1 : Int32) (h : ci_H) (r : ci_H), b_X11_startChances_2 l0 n l1 h = some r → Ev xs N d 162 2 [.ref l0, .int l1] [] h nx (oV r nx) := by
  intro n
  induction n with
  | zero => intro l1 h r H; unfold b_X11_startChances_2 at H; cases H
  | succ n ih =>
    intro l1 h r H
    unfold b_X11_startChances_2 at H
    refine ev_go hc_X11_startChances (k := 2) (pc' := 5) (L' := [.ref l0, .int l1]) (S' := [.int 12, .int l1]) rfl ?_
    by_cases c1 : 12 < l1
    · rw [if_pos c1] at H
      refine ev_bt hc_X11_startChances (fe_X11_startChances (pc := 5) rfl) rfl c1 ?_
      refine ev_go hc_X11_startChances (k := 1) (pc' := 22) (L' := [.ref l0, .int l1]) (S' := [.ref l0]) rfl ?_
      obtain ⟨v2, ev2, H⟩ := Option.bind_eq_some_iff.mp H
      refine ev_4 hc_X11_startChances (fe_X11_startChances (pc := 22) rfl) (gR_gf ev2) ?_
      refine ev_go hc_X11_startChances (k := 2) (pc' := 29) (L' := [.ref l0, .int l1]) (S' := [.long (Int64.ofNat 1000000), .int 0, .ref v2]) rfl ?_
      obtain ⟨h3, eh3, H⟩ := Option.bind_eq_some_iff.mp H
      refine ev_5 hc_X11_startChances (fe_X11_startChances (pc := 29) rfl) (wL_as eh3) ?_
      obtain rfl := Option.some.inj H
      exact ev_8 hc_X11_startChances (fe_X11_startChances (pc := 30) rfl) rfl
    · rw [if_neg c1] at H
      refine ev_bf hc_X11_startChances (fe_X11_startChances (pc := 5) rfl) rfl c1 ?_
      refine ev_go hc_X11_startChances (k := 1) (pc' := 9) (L' := [.ref l0, .int l1]) (S' := [.ref l0]) rfl ?_
      obtain ⟨v4, ev4, H⟩ := Option.bind_eq_some_iff.mp H
      refine ev_4 hc_X11_startChances (fe_X11_startChances (pc := 9) rfl) (gR_gf ev4) ?_
      refine ev_go hc_X11_startChances (k := 2) (pc' := 14) (L' := [.ref l0, .int l1]) (S' := [.long (Int64.ofNat 0), .int l1, .ref v4]) rfl ?_
      obtain ⟨h5, eh5, H⟩ := Option.bind_eq_some_iff.mp H
      refine ev_5 hc_X11_startChances (fe_X11_startChances (pc := 14) rfl) (wL_as eh5) ?_
      refine ev_go hc_X11_startChances (k := 2) (pc' := 2) (L' := [.ref l0, .int (l1 + 1)]) (S' := []) rfl ?_
      exact Ev.weak (ci_le_c (Or.inr rfl) (ci_le_c (Or.inr rfl) (ci_le_n))) (ih _ _ _ H)
def F_X11_startChances (a0 : Nat) (h : ci_H) : Option (ci_H) := if kO h a0 = some 11 then (b_X11_startChances_2 a0 bigN 0 h) else none
theorem K_X11_startChances {a0 : Nat} {h : ci_H} {r : ci_H} (H : F_X11_startChances a0 h = some r) : kO h a0 = some 11 := by
  unfold F_X11_startChances at H
  by_cases c : kO h a0 = some 11
  · exact c
  · rw [if_neg c] at H; cases H
set_option maxHeartbeats 4000000 in
set_option maxRecDepth 20000 in
theorem E_X11_startChances {xs : Nat → Int32} {N d : Nat} {nx : ci_N} {a0 : Nat} {h : ci_H} {r : ci_H} (H : F_X11_startChances a0 h = some r) (hd : 0 ≤ d) : Ev xs N d 162 0 (ci_entry [.ref a0] 2) [] h nx (oV r nx) := by
  unfold F_X11_startChances at H
  by_cases ck : kO h a0 = some 11
  · rw [if_pos ck] at H
    show Ev xs N d 162 0 [.ref a0, ci_junk] [] h nx _
    refine ev_go hc_X11_startChances (k := 2) (pc' := 2) (L' := [.ref a0, .int 0]) (S' := []) rfl ?_
    exact Ev.weak (ci_le_c (Or.inr rfl) (ci_le_c (Or.inr rfl) (ci_le_n))) (eb_X11_startChances_2 bigN _ _ _ H)
  · rw [if_neg ck] at H; cases H
theorem hc_X11_shiftChances : ci_code (ci_Ms 163) = k_X11_shiftChances := rfl
theorem fe_X11_shiftChances {pc : Nat} {w : Option ci_I} (h : (k_X11_shiftChances)[pc]? = some w) : (k_X11_shiftChances)[pc]? = some w := h
def b_X11_shiftChances_3 (l0 : Nat) (l1 : Int64) : Nat → Int32 → ci_H → Option (ci_H)
  | 0, _, _ => none
  | n + 1, l3, h => if l3 ≤ 0 then ((gR h l0 11 18).bind fun v2 => (gR h l0 11 18).bind fun v3 => (rL h v3 0).bind fun v4 => (dvL (v4 * ((Int64.ofNat 1000) - l1)) (Int64.ofNat 1000)).bind fun v5 => (wL h v2 0 v5).bind fun h6 => some h6) else ((gR h l0 11 18).bind fun v7 => (gR h l0 11 18).bind fun v8 => (rL h v8 l3).bind fun v9 => (gR h l0 11 18).bind fun v10 => (rL h v10 (l3 - 1)).bind fun v11 => (dvL ((v9 * ((Int64.ofNat 1000) - l1)) + (v11 * l1)) (Int64.ofNat 1000)).bind fun v12 => (wL h v7 l3 v12).bind fun h13 => b_X11_shiftChances_3 l0 l1 n (l3 + (-1)) h13)
set_option maxHeartbeats 4000000 in
set_option maxRecDepth 20000 in
theorem eb_X11_shiftChances_3 {xs : Nat → Int32} {N d : Nat} {nx : ci_N} {l0 : Nat} {l1 : Int64} : ∀ (n : Nat) (l3 : Int32) (h : ci_H) (r : ci_H), b_X11_shiftChances_3 l0 l1 n l3 h = some r → Ev xs N d 163 3 [.ref l0, .long l1, ci_junk, .int l3] [] h nx (oV r nx) := by
  intro n
  induction n with
  | zero => intro l3 h r H; unfold b_X11_shiftChances_3 at H; cases H
  | succ n ih =>
    intro l3 h r H
    unfold b_X11_shiftChances_3 at H
    refine ev_go hc_X11_shiftChances (k := 1) (pc' := 4) (L' := [.ref l0, .long l1, ci_junk, .int l3]) (S' := [.int l3]) rfl ?_
    by_cases c1 : l3 ≤ 0
    · rw [if_pos c1] at H
      refine ev_bt hc_X11_shiftChances (fe_X11_shiftChances (pc := 4) rfl) rfl c1 ?_
      refine ev_go hc_X11_shiftChances (k := 1) (pc' := 47) (L' := [.ref l0, .long l1, ci_junk, .int l3]) (S' := [.ref l0]) rfl ?_
      obtain ⟨v2, ev2, H⟩ := Option.bind_eq_some_iff.mp H
      refine ev_4 hc_X11_shiftChances (fe_X11_shiftChances (pc := 47) rfl) (gR_gf ev2) ?_
      refine ev_go hc_X11_shiftChances (k := 2) (pc' := 52) (L' := [.ref l0, .long l1, ci_junk, .int l3]) (S' := [.ref l0, .int 0, .ref v2]) rfl ?_
      obtain ⟨v3, ev3, H⟩ := Option.bind_eq_some_iff.mp H
      refine ev_4 hc_X11_shiftChances (fe_X11_shiftChances (pc := 52) rfl) (gR_gf ev3) ?_
      refine ev_go hc_X11_shiftChances (k := 1) (pc' := 56) (L' := [.ref l0, .long l1, ci_junk, .int l3]) (S' := [.int 0, .ref v3, .int 0, .ref v2]) rfl ?_
      obtain ⟨v4, ev4, H⟩ := Option.bind_eq_some_iff.mp H
      refine ev_4 hc_X11_shiftChances (fe_X11_shiftChances (pc := 56) rfl) (rL_al ev4) ?_
      refine ev_go hc_X11_shiftChances (k := 5) (pc' := 66) (L' := [.ref l0, .long l1, ci_junk, .int l3]) (S' := [.long (Int64.ofNat 1000), .long (v4 * ((Int64.ofNat 1000) - l1)), .int 0, .ref v2]) rfl ?_
      obtain ⟨v5, ev5, H⟩ := Option.bind_eq_some_iff.mp H
      refine ev_1 hc_X11_shiftChances (fe_X11_shiftChances (pc := 66) rfl) (dvL_st ev5) ?_
      obtain ⟨h6, eh6, H⟩ := Option.bind_eq_some_iff.mp H
      refine ev_5 hc_X11_shiftChances (fe_X11_shiftChances (pc := 67) rfl) (wL_as eh6) ?_
      obtain rfl := Option.some.inj H
      exact ev_8 hc_X11_shiftChances (fe_X11_shiftChances (pc := 68) rfl) rfl
    · rw [if_neg c1] at H
      refine ev_bf hc_X11_shiftChances (fe_X11_shiftChances (pc := 4) rfl) rfl c1 ?_
      refine ev_go hc_X11_shiftChances (k := 1) (pc' := 8) (L' := [.ref l0, .long l1, ci_junk, .int l3]) (S' := [.ref l0]) rfl ?_
      obtain ⟨v7, ev7, H⟩ := Option.bind_eq_some_iff.mp H
      refine ev_4 hc_X11_shiftChances (fe_X11_shiftChances (pc := 8) rfl) (gR_gf ev7) ?_
      refine ev_go hc_X11_shiftChances (k := 2) (pc' := 13) (L' := [.ref l0, .long l1, ci_junk, .int l3]) (S' := [.ref l0, .int l3, .ref v7]) rfl ?_
      obtain ⟨v8, ev8, H⟩ := Option.bind_eq_some_iff.mp H
      refine ev_4 hc_X11_shiftChances (fe_X11_shiftChances (pc := 13) rfl) (gR_gf ev8) ?_
      refine ev_go hc_X11_shiftChances (k := 1) (pc' := 17) (L' := [.ref l0, .long l1, ci_junk, .int l3]) (S' := [.int l3, .ref v8, .int l3, .ref v7]) rfl ?_
      obtain ⟨v9, ev9, H⟩ := Option.bind_eq_some_iff.mp H
      refine ev_4 hc_X11_shiftChances (fe_X11_shiftChances (pc := 17) rfl) (rL_al ev9) ?_
      refine ev_go hc_X11_shiftChances (k := 5) (pc' := 25) (L' := [.ref l0, .long l1, ci_junk, .int l3]) (S' := [.ref l0, .long (v9 * ((Int64.ofNat 1000) - l1)), .int l3, .ref v7]) rfl ?_
      obtain ⟨v10, ev10, H⟩ := Option.bind_eq_some_iff.mp H
      refine ev_4 hc_X11_shiftChances (fe_X11_shiftChances (pc := 25) rfl) (gR_gf ev10) ?_
      refine ev_go hc_X11_shiftChances (k := 3) (pc' := 31) (L' := [.ref l0, .long l1, ci_junk, .int l3]) (S' := [.int (l3 - 1), .ref v10, .long (v9 * ((Int64.ofNat 1000) - l1)), .int l3, .ref v7]) rfl ?_
      obtain ⟨v11, ev11, H⟩ := Option.bind_eq_some_iff.mp H
      refine ev_4 hc_X11_shiftChances (fe_X11_shiftChances (pc := 31) rfl) (rL_al ev11) ?_
      refine ev_go hc_X11_shiftChances (k := 4) (pc' := 38) (L' := [.ref l0, .long l1, ci_junk, .int l3]) (S' := [.long (Int64.ofNat 1000), .long ((v9 * ((Int64.ofNat 1000) - l1)) + (v11 * l1)), .int l3, .ref v7]) rfl ?_
      obtain ⟨v12, ev12, H⟩ := Option.bind_eq_some_iff.mp H
      refine ev_1 hc_X11_shiftChances (fe_X11_shiftChances (pc := 38) rfl) (dvL_st ev12) ?_
      obtain ⟨h13, eh13, H⟩ := Option.bind_eq_some_iff.mp H
      refine ev_5 hc_X11_shiftChances (fe_X11_shiftChances (pc := 39) rfl) (wL_as eh13) ?_
      refine ev_go hc_X11_shiftChances (k := 2) (pc' := 3) (L' := [.ref l0, .long l1, ci_junk, .int (l3 + (-1))]) (S' := []) rfl ?_
      exact Ev.weak (ci_le_c (Or.inr rfl) (ci_le_c (Or.inr rfl) (ci_le_c (Or.inl rfl) (ci_le_c (Or.inr rfl) (ci_le_n))))) (ih _ _ _ H)
def F_X11_shiftChances (a0 : Nat) (a1 : Int64) (h : ci_H) : Option (ci_H) := if kO h a0 = some 11 then (b_X11_shiftChances_3 a0 a1 bigN 12 h) else none
theorem K_X11_shiftChances {a0 : Nat} {a1 : Int64} {h : ci_H} {r : ci_H} (H : F_X11_shiftChances a0 a1 h = some r) : kO h a0 = some 11 := by
  unfold F_X11_shiftChances at H
  by_cases c : kO h a0 = some 11
  · exact c
  · rw [if_neg c] at H; cases H
set_option maxHeartbeats 4000000 in
set_option maxRecDepth 20000 in
theorem E_X11_shiftChances {xs : Nat → Int32} {N d : Nat} {nx : ci_N} {a0 : Nat} {a1 : Int64} {h : ci_H} {r : ci_H} (H : F_X11_shiftChances a0 a1 h = some r) (hd : 0 ≤ d) : Ev xs N d 163 0 (ci_entry [.ref a0, .long a1] 4) [] h nx (oV r nx) := by
  unfold F_X11_shiftChances at H
  by_cases ck : kO h a0 = some 11
  · rw [if_pos ck] at H
    show Ev xs N d 163 0 [.ref a0, .long a1, ci_junk, ci_junk] [] h nx _
    refine ev_go hc_X11_shiftChances (k := 2) (pc' := 3) (L' := [.ref a0, .long a1, ci_junk, .int 12]) (S' := []) rfl ?_
    exact Ev.weak (ci_le_c (Or.inr rfl) (ci_le_c (Or.inr rfl) (ci_le_c (Or.inl rfl) (ci_le_c (Or.inr rfl) (ci_le_n))))) (eb_X11_shiftChances_3 bigN _ _ _ H)
  · rw [if_neg ck] at H; cases H
theorem hc_X11_finds : ci_code (ci_Ms 137) = k_X11_finds := rfl
theorem fe_X11_finds {pc : Nat} {w : Option ci_I} (h : (k_X11_finds)[pc]? = some w) : (k_X11_finds)[pc]? = some w := h
def b_X11_finds_137 (l0 : Nat) : Nat → Int64 → Int32 → ci_H → Option (Int32 × ci_H)
  | 0, _, _, _ => none
  | n + 1, l6, l8, h => if 12 < l8 then (some ((l6 : Int64).toInt32, h)) else ((gR h l0 11 18).bind fun v2 => (rL h v2 l8).bind fun v3 => b_X11_finds_137 l0 n (l6 + v3) (l8 + 1) h)
set_option maxHeartbeats 4000000 in
set_option maxRecDepth 20000 in
theorem eb_X11_finds_137 {xs : Nat → Int32} {N d : Nat} {nx : ci_N} {l0 : Nat} (hd : 1 ≤ d) : ∀ (n : Nat) (l6 : Int64) (l8 : Int32) (h : ci_H) (r : Int32 × ci_H), b_X11_finds_137 l0 n l6 l8 h = some r → Ev xs N (d + 1) 137 137 [.ref l0, ci_junk, ci_junk, ci_junk, ci_junk, ci_junk, .long l6, ci_junk, .int l8] [] h nx (oI r nx) := by
  intro n
  induction n with
  | zero => intro l6 l8 h r H; unfold b_X11_finds_137 at H; cases H
  | succ n ih =>
    intro l6 l8 h r H
    unfold b_X11_finds_137 at H
    refine ev_go hc_X11_finds (k := 2) (pc' := 141) (L' := [.ref l0, ci_junk, ci_junk, ci_junk, ci_junk, ci_junk, .long l6, ci_junk, .int l8]) (S' := [.int 12, .int l8]) rfl ?_
    by_cases c1 : 12 < l8
    · rw [if_pos c1] at H
      refine ev_bt hc_X11_finds (fe_X11_finds (pc := 141) rfl) rfl c1 ?_
      refine ev_go hc_X11_finds (k := 2) (pc' := 165) (L' := [.ref l0, ci_junk, ci_junk, ci_junk, ci_junk, ci_junk, .long l6, ci_junk, .int l8]) (S' := [.int ((l6 : Int64).toInt32)]) rfl ?_
      obtain rfl := Option.some.inj H
      exact ev_8 hc_X11_finds (fe_X11_finds (pc := 165) rfl) rfl
    · rw [if_neg c1] at H
      refine ev_bf hc_X11_finds (fe_X11_finds (pc := 141) rfl) rfl c1 ?_
      refine ev_go hc_X11_finds (k := 2) (pc' := 147) (L' := [.ref l0, ci_junk, ci_junk, ci_junk, ci_junk, ci_junk, .long l6, ci_junk, .int l8]) (S' := [.ref l0, .long l6]) rfl ?_
      obtain ⟨v2, ev2, H⟩ := Option.bind_eq_some_iff.mp H
      refine ev_4 hc_X11_finds (fe_X11_finds (pc := 147) rfl) (gR_gf ev2) ?_
      refine ev_go hc_X11_finds (k := 1) (pc' := 152) (L' := [.ref l0, ci_junk, ci_junk, ci_junk, ci_junk, ci_junk, .long l6, ci_junk, .int l8]) (S' := [.int l8, .ref v2, .long l6]) rfl ?_
      obtain ⟨v3, ev3, H⟩ := Option.bind_eq_some_iff.mp H
      refine ev_4 hc_X11_finds (fe_X11_finds (pc := 152) rfl) (rL_al ev3) ?_
      refine ev_go hc_X11_finds (k := 4) (pc' := 137) (L' := [.ref l0, ci_junk, ci_junk, ci_junk, ci_junk, ci_junk, .long (l6 + v3), ci_junk, .int (l8 + 1)]) (S' := []) rfl ?_
      exact Ev.weak (ci_le_c (Or.inr rfl) (ci_le_c (Or.inl rfl) (ci_le_c (Or.inl rfl) (ci_le_c (Or.inl rfl) (ci_le_c (Or.inl rfl) (ci_le_c (Or.inl rfl) (ci_le_c (Or.inr rfl) (ci_le_c (Or.inl rfl) (ci_le_c (Or.inr rfl) (ci_le_n)))))))))) (ih _ _ _ _ H)
def b_X11_finds_117 (r_70 : Int32 → ci_H → Option (Int32 × ci_H)) (l0 : Nat) (l2 : Int32) (l3 : Int32) (l4 : Int32) (l5 : Int32) (l6 : Int32)  (h : ci_H) : Option (Int32 × ci_H) := r_70 (l6 + 1) h
set_option maxHeartbeats 4000000 in
set_option maxRecDepth 20000 in
theorem eb_X11_finds_117 {xs : Nat → Int32} {N d : Nat} {nx : ci_N} {r_70 : Int32 → ci_H → Option (Int32 × ci_H)} {l0 : Nat} {l2 : Int32} {l3 : Int32} {l4 : Int32} {l5 : Int32} {l6 : Int32} (hd : 1 ≤ d) (h_70 : ∀ (l6 : Int32) (h : ci_H) (r : Int32 × ci_H), r_70 l6 h = some r → Ev xs N (d + 1) 137 70 [.ref l0, ci_junk, .int l2, .int l3, .int l4, .int l5, .int l6, ci_junk, ci_junk] [] h nx (oI r nx)) {h : ci_H} {r : Int32 × ci_H} (H : b_X11_finds_117 r_70 l0 l2 l3 l4 l5 l6 h = some r) : Ev xs N (d + 1) 137 117 [.ref l0, ci_junk, .int l2, .int l3, .int l4, .int l5, .int l6, ci_junk, ci_junk] [] h nx (oI r nx) := by
  unfold b_X11_finds_117 at H
  refine ev_go hc_X11_finds (k := 2) (pc' := 70) (L' := [.ref l0, ci_junk, .int l2, .int l3, .int l4, .int l5, .int (l6 + 1), ci_junk, ci_junk]) (S' := []) rfl ?_
  exact Ev.weak (ci_le_c (Or.inr rfl) (ci_le_c (Or.inl rfl) (ci_le_c (Or.inr rfl) (ci_le_c (Or.inr rfl) (ci_le_c (Or.inr rfl) (ci_le_c (Or.inr rfl) (ci_le_c (Or.inr rfl) (ci_le_c (Or.inl rfl) (ci_le_c (Or.inl rfl) (ci_le_n)))))))))) (h_70 _ _ _ H)
def b_X11_finds_70 (l0 : Nat) (l2 : Int32) (l3 : Int32) (l4 : Int32) (l5 : Int32) : Nat → Int32 → ci_H → Option (Int32 × ci_H)
  | 0, _, _ => none
  | n + 1, l6, h => (gR h l0 11 0).bind fun v1 => (gI h v1 10 6).bind fun v2 => if v2 ≤ l6 then ((gR h l0 11 0).bind fun v4 => (gI h v4 10 8).bind fun v5 => b_X11_finds_137 l0 bigN (Int64.ofNat 0) (v5 + 1) h) else (if ((l4 >>> (l6 &&& 31)) &&& 1) = 0 then (b_X11_finds_117 (fun x0 x1 => b_X11_finds_70 l0 l2 l3 l4 l5 n x0 x1) l0 l2 l3 l4 l5 l6 h) else ((F_X11_likely l0 l6 l2 l3 h).bind fun q7 => (dvL ((Int64.ofNat 1000) * ((q7.1 : Int32).toInt64)) ((l5 : Int32).toInt64)).bind fun v8 => (F_X11_shiftChances l0 v8 q7.2).bind fun h9 => b_X11_finds_117 (fun x0 x1 => b_X11_finds_70 l0 l2 l3 l4 l5 n x0 x1) l0 l2 l3 l4 l5 l6 h9))
set_option maxHeartbeats 4000000 in
set_option maxRecDepth 20000 in
theorem eb_X11_finds_70 {xs : Nat → Int32} {N d : Nat} {nx : ci_N} {l0 : Nat} {l2 : Int32} {l3 : Int32} {l4 : Int32} {l5 : Int32} (hd : 1 ≤ d) : ∀ (n : Nat) (l6 : Int32) (h : ci_H) (r : Int32 × ci_H), b_X11_finds_70 l0 l2 l3 l4 l5 n l6 h = some r → Ev xs N (d + 1) 137 70 [.ref l0, ci_junk, .int l2, .int l3, .int l4, .int l5, .int l6, ci_junk, ci_junk] [] h nx (oI r nx) := by
  intro n
  induction n with
  | zero => intro l6 h r H; unfold b_X11_finds_70 at H; cases H
  | succ n ih =>
    intro l6 h r H
    unfold b_X11_finds_70 at H
    refine ev_go hc_X11_finds (k := 2) (pc' := 73) (L' := [.ref l0, ci_junk, .int l2, .int l3, .int l4, .int l5, .int l6, ci_junk, ci_junk]) (S' := [.ref l0, .int l6]) rfl ?_
    obtain ⟨v1, ev1, H⟩ := Option.bind_eq_some_iff.mp H
    refine ev_4 hc_X11_finds (fe_X11_finds (pc := 73) rfl) (gR_gf ev1) ?_
    obtain ⟨v2, ev2, H⟩ := Option.bind_eq_some_iff.mp H
    refine ev_4 hc_X11_finds (fe_X11_finds (pc := 76) rfl) (gI_gf ev2) ?_
    by_cases c3 : v2 ≤ l6
    · rw [if_pos c3] at H
      refine ev_bt hc_X11_finds (fe_X11_finds (pc := 79) rfl) rfl c3 ?_
      refine ev_go hc_X11_finds (k := 3) (pc' := 127) (L' := [.ref l0, ci_junk, .int l2, .int l3, .int l4, .int l5, .long (Int64.ofNat 0), ci_junk, ci_junk]) (S' := [.ref l0]) rfl ?_
      obtain ⟨v4, ev4, H⟩ := Option.bind_eq_some_iff.mp H
      refine ev_4 hc_X11_finds (fe_X11_finds (pc := 127) rfl) (gR_gf ev4) ?_
      obtain ⟨v5, ev5, H⟩ := Option.bind_eq_some_iff.mp H
      refine ev_4 hc_X11_finds (fe_X11_finds (pc := 130) rfl) (gI_gf ev5) ?_
      refine ev_go hc_X11_finds (k := 3) (pc' := 137) (L' := [.ref l0, ci_junk, .int l2, .int l3, .int l4, .int l5, .long (Int64.ofNat 0), ci_junk, .int (v5 + 1)]) (S' := []) rfl ?_
      exact Ev.weak (ci_le_c (Or.inr rfl) (ci_le_c (Or.inl rfl) (ci_le_c (Or.inl rfl) (ci_le_c (Or.inl rfl) (ci_le_c (Or.inl rfl) (ci_le_c (Or.inl rfl) (ci_le_c (Or.inr rfl) (ci_le_c (Or.inl rfl) (ci_le_c (Or.inr rfl) (ci_le_n)))))))))) (eb_X11_finds_137 hd bigN _ _ _ _ H)
    · rw [if_neg c3] at H
      refine ev_bf hc_X11_finds (fe_X11_finds (pc := 79) rfl) rfl c3 ?_
      refine ev_go hc_X11_finds (k := 5) (pc' := 89) (L' := [.ref l0, ci_junk, .int l2, .int l3, .int l4, .int l5, .int l6, ci_junk, ci_junk]) (S' := [.int ((l4 >>> (l6 &&& 31)) &&& 1)]) rfl ?_
      by_cases c6 : ((l4 >>> (l6 &&& 31)) &&& 1) = 0
      · rw [if_pos c6] at H
        refine ev_bt hc_X11_finds (fe_X11_finds (pc := 89) rfl) rfl c6 ?_
        exact Ev.weak (ci_le_c (Or.inr rfl) (ci_le_c (Or.inl rfl) (ci_le_c (Or.inr rfl) (ci_le_c (Or.inr rfl) (ci_le_c (Or.inr rfl) (ci_le_c (Or.inr rfl) (ci_le_c (Or.inr rfl) (ci_le_c (Or.inl rfl) (ci_le_c (Or.inl rfl) (ci_le_n)))))))))) (eb_X11_finds_117 hd ih H)
      · rw [if_neg c6] at H
        refine ev_bf hc_X11_finds (fe_X11_finds (pc := 89) rfl) rfl c6 ?_
        refine ev_go hc_X11_finds (k := 5) (pc' := 100) (L' := [.ref l0, ci_junk, .int l2, .int l3, .int l4, .int l5, .int l6, ci_junk, ci_junk]) (S' := [.int l3, .int l2, .int l6, .ref l0, .long (Int64.ofNat 1000)]) rfl ?_
        obtain ⟨q7, eq7, H⟩ := Option.bind_eq_some_iff.mp H
        refine ev_call (vs := [.ref l0, .int l6, .int l2, .int l3]) (rest := [.long (Int64.ofNat 1000)]) (q := q_X11_likely) hc_X11_finds (Or.inr rfl) (fe_X11_finds (pc := 100) rfl) ms_159 rfl rfl (Nat.le_of_ble_eq_true rfl) (kO_recv (K_X11_likely eq7)) (E_X11_likely eq7 (by omega)) rfl ?_
        show Ev xs N (d + 1) 137 103 [.ref l0, ci_junk, .int l2, .int l3, .int l4, .int l5, .int l6, ci_junk, ci_junk] [.int q7.1, .long (Int64.ofNat 1000)] q7.2 nx _
        refine ev_go hc_X11_finds (k := 4) (pc' := 108) (L' := [.ref l0, ci_junk, .int l2, .int l3, .int l4, .int l5, .int l6, ci_junk, ci_junk]) (S' := [.long ((l5 : Int32).toInt64), .long ((Int64.ofNat 1000) * ((q7.1 : Int32).toInt64))]) rfl ?_
        obtain ⟨v8, ev8, H⟩ := Option.bind_eq_some_iff.mp H
        refine ev_1 hc_X11_finds (fe_X11_finds (pc := 108) rfl) (dvL_st ev8) ?_
        refine ev_go hc_X11_finds (k := 3) (pc' := 114) (L' := [.ref l0, ci_junk, .int l2, .int l3, .int l4, .int l5, .int l6, .long v8, ci_junk]) (S' := [.long v8, .ref l0]) rfl ?_
        obtain ⟨h9, eh9, H⟩ := Option.bind_eq_some_iff.mp H
        refine ev_call (vs := [.ref l0, .long v8]) (rest := []) (q := q_X11_shiftChances) hc_X11_finds (Or.inr rfl) (fe_X11_finds (pc := 114) rfl) ms_163 rfl rfl (Nat.le_of_ble_eq_true rfl) (kO_recv (K_X11_shiftChances eh9)) (E_X11_shiftChances eh9 (by omega)) rfl ?_
        show Ev xs N (d + 1) 137 117 [.ref l0, ci_junk, .int l2, .int l3, .int l4, .int l5, .int l6, .long v8, ci_junk] [] h9 nx _
        exact Ev.weak (ci_le_c (Or.inr rfl) (ci_le_c (Or.inl rfl) (ci_le_c (Or.inr rfl) (ci_le_c (Or.inr rfl) (ci_le_c (Or.inr rfl) (ci_le_c (Or.inr rfl) (ci_le_c (Or.inr rfl) (ci_le_c (Or.inl rfl) (ci_le_c (Or.inl rfl) (ci_le_n)))))))))) (eb_X11_finds_117 hd ih H)
def F_X11_finds (a0 : Nat) (a1 : Int32) (a2 : Int32) (a3 : Int32) (h : ci_H) : Option (Int32 × ci_H) := if kO h a0 = some 11 then ((gR h a0 11 0).bind fun v1 => (F_X10_hasHouse v1 a1 h).bind fun q2 => if q2.1 = 0 then (some ((-1), q2.2)) else ((gR q2.2 a0 11 0).bind fun v4 => (F_X10_hasKind v4 a2 q2.2).bind fun q5 => if q5.1 = 0 then (some ((-1), q5.2)) else (if a3 < 0 then (some ((-1), q5.2)) else (if a3 ≤ 10 then ((gR q5.2 a0 11 0).bind fun v9 => (F_X10_keptBy v9 a1 q5.2).bind fun q10 => (gR q10.2 a0 11 0).bind fun v11 => (F_X10_namedBy v11 a2 q10.2).bind fun q12 => (F_X11_power 10 q12.1 q12.2).bind fun q13 => (F_X11_startChances a0 q13.2).bind fun h14 => b_X11_finds_70 a0 a2 a3 q10.1 (if 1 < q13.1 then q13.1 else 1) bigN 0 h14) else (some ((-1), q5.2)))))) else none
theorem K_X11_finds {a0 : Nat} {a1 : Int32} {a2 : Int32} {a3 : Int32} {h : ci_H} {r : Int32 × ci_H} (H : F_X11_finds a0 a1 a2 a3 h = some r) : kO h a0 = some 11 := by
  unfold F_X11_finds at H
  by_cases c : kO h a0 = some 11
  · exact c
  · rw [if_neg c] at H; cases H
set_option maxHeartbeats 4000000 in
set_option maxRecDepth 20000 in
theorem E_X11_finds {xs : Nat → Int32} {N d : Nat} {nx : ci_N} {a0 : Nat} {a1 : Int32} {a2 : Int32} {a3 : Int32} {h : ci_H} {r : Int32 × ci_H} (H : F_X11_finds a0 a1 a2 a3 h = some r) (hd : 2 ≤ d) : Ev xs N d 137 0 (ci_entry [.ref a0, .int a1, .int a2, .int a3] 9) [] h nx (oI r nx) := by
  obtain ⟨d, rfl⟩ : ∃ d2, d = d2 + 1 := ⟨d - 1, by omega⟩
  have hd : 1 ≤ d := by omega
  unfold F_X11_finds at H
  by_cases ck : kO h a0 = some 11
  · rw [if_pos ck] at H
    show Ev xs N (d + 1) 137 0 [.ref a0, .int a1, .int a2, .int a3, ci_junk, ci_junk, ci_junk, ci_junk, ci_junk] [] h nx _
    refine ev_go hc_X11_finds (k := 1) (pc' := 1) (L' := [.ref a0, .int a1, .int a2, .int a3, ci_junk, ci_junk, ci_junk, ci_junk, ci_junk]) (S' := [.ref a0]) rfl ?_
    obtain ⟨v1, ev1, H⟩ := Option.bind_eq_some_iff.mp H
    refine ev_4 hc_X11_finds (fe_X11_finds (pc := 1) rfl) (gR_gf ev1) ?_
    refine ev_go hc_X11_finds (k := 1) (pc' := 5) (L' := [.ref a0, .int a1, .int a2, .int a3, ci_junk, ci_junk, ci_junk, ci_junk, ci_junk]) (S' := [.int a1, .ref v1]) rfl ?_
    obtain ⟨q2, eq2, H⟩ := Option.bind_eq_some_iff.mp H
    refine ev_call (vs := [.ref v1, .int a1]) (rest := []) (q := q_X10_hasHouse) hc_X11_finds (Or.inr rfl) (fe_X11_finds (pc := 5) rfl) ms_62 rfl rfl (Nat.le_of_ble_eq_true rfl) (kO_recv (K_X10_hasHouse eq2)) (E_X10_hasHouse eq2 (by omega)) rfl ?_
    show Ev xs N (d + 1) 137 8 [.ref a0, .int a1, .int a2, .int a3, ci_junk, ci_junk, ci_junk, ci_junk, ci_junk] [.int q2.1] q2.2 nx _
    by_cases c3 : q2.1 = 0
    · rw [if_pos c3] at H
      refine ev_bt hc_X11_finds (fe_X11_finds (pc := 8) rfl) rfl c3 ?_
      refine ev_go hc_X11_finds (k := 1) (pc' := 33) (L' := [.ref a0, .int a1, .int a2, .int a3, ci_junk, ci_junk, ci_junk, ci_junk, ci_junk]) (S' := [.int ((-1))]) rfl ?_
      obtain rfl := Option.some.inj H
      exact ev_8 hc_X11_finds (fe_X11_finds (pc := 33) rfl) rfl
    · rw [if_neg c3] at H
      refine ev_bf hc_X11_finds (fe_X11_finds (pc := 8) rfl) rfl c3 ?_
      refine ev_go hc_X11_finds (k := 1) (pc' := 12) (L' := [.ref a0, .int a1, .int a2, .int a3, ci_junk, ci_junk, ci_junk, ci_junk, ci_junk]) (S' := [.ref a0]) rfl ?_
      obtain ⟨v4, ev4, H⟩ := Option.bind_eq_some_iff.mp H
      refine ev_4 hc_X11_finds (fe_X11_finds (pc := 12) rfl) (gR_gf ev4) ?_
      refine ev_go hc_X11_finds (k := 1) (pc' := 16) (L' := [.ref a0, .int a1, .int a2, .int a3, ci_junk, ci_junk, ci_junk, ci_junk, ci_junk]) (S' := [.int a2, .ref v4]) rfl ?_
      obtain ⟨q5, eq5, H⟩ := Option.bind_eq_some_iff.mp H
      refine ev_call (vs := [.ref v4, .int a2]) (rest := []) (q := q_X10_hasKind) hc_X11_finds (Or.inr rfl) (fe_X11_finds (pc := 16) rfl) ms_64 rfl rfl (Nat.le_of_ble_eq_true rfl) (kO_recv (K_X10_hasKind eq5)) (E_X10_hasKind eq5 (by omega)) rfl ?_
      show Ev xs N (d + 1) 137 19 [.ref a0, .int a1, .int a2, .int a3, ci_junk, ci_junk, ci_junk, ci_junk, ci_junk] [.int q5.1] q5.2 nx _
      by_cases c6 : q5.1 = 0
      · rw [if_pos c6] at H
        refine ev_bt hc_X11_finds (fe_X11_finds (pc := 19) rfl) rfl c6 ?_
        refine ev_go hc_X11_finds (k := 1) (pc' := 33) (L' := [.ref a0, .int a1, .int a2, .int a3, ci_junk, ci_junk, ci_junk, ci_junk, ci_junk]) (S' := [.int ((-1))]) rfl ?_
        obtain rfl := Option.some.inj H
        exact ev_8 hc_X11_finds (fe_X11_finds (pc := 33) rfl) rfl
      · rw [if_neg c6] at H
        refine ev_bf hc_X11_finds (fe_X11_finds (pc := 19) rfl) rfl c6 ?_
        refine ev_go hc_X11_finds (k := 1) (pc' := 23) (L' := [.ref a0, .int a1, .int a2, .int a3, ci_junk, ci_junk, ci_junk, ci_junk, ci_junk]) (S' := [.int a3]) rfl ?_
        by_cases c7 : a3 < 0
        · rw [if_pos c7] at H
          refine ev_bt hc_X11_finds (fe_X11_finds (pc := 23) rfl) rfl c7 ?_
          refine ev_go hc_X11_finds (k := 1) (pc' := 33) (L' := [.ref a0, .int a1, .int a2, .int a3, ci_junk, ci_junk, ci_junk, ci_junk, ci_junk]) (S' := [.int ((-1))]) rfl ?_
          obtain rfl := Option.some.inj H
          exact ev_8 hc_X11_finds (fe_X11_finds (pc := 33) rfl) rfl
        · rw [if_neg c7] at H
          refine ev_bf hc_X11_finds (fe_X11_finds (pc := 23) rfl) rfl c7 ?_
          refine ev_go hc_X11_finds (k := 2) (pc' := 29) (L' := [.ref a0, .int a1, .int a2, .int a3, ci_junk, ci_junk, ci_junk, ci_junk, ci_junk]) (S' := [.int 10, .int a3]) rfl ?_
          by_cases c8 : a3 ≤ 10
          · rw [if_pos c8] at H
            refine ev_bt hc_X11_finds (fe_X11_finds (pc := 29) rfl) rfl c8 ?_
            refine ev_go hc_X11_finds (k := 1) (pc' := 35) (L' := [.ref a0, .int a1, .int a2, .int a3, ci_junk, ci_junk, ci_junk, ci_junk, ci_junk]) (S' := [.ref a0]) rfl ?_
            obtain ⟨v9, ev9, H⟩ := Option.bind_eq_some_iff.mp H
            refine ev_4 hc_X11_finds (fe_X11_finds (pc := 35) rfl) (gR_gf ev9) ?_
            refine ev_go hc_X11_finds (k := 1) (pc' := 39) (L' := [.ref a0, .int a1, .int a2, .int a3, ci_junk, ci_junk, ci_junk, ci_junk, ci_junk]) (S' := [.int a1, .ref v9]) rfl ?_
            obtain ⟨q10, eq10, H⟩ := Option.bind_eq_some_iff.mp H
            refine ev_call (vs := [.ref v9, .int a1]) (rest := []) (q := q_X10_keptBy) hc_X11_finds (Or.inr rfl) (fe_X11_finds (pc := 39) rfl) ms_75 rfl rfl (Nat.le_of_ble_eq_true rfl) (kO_recv (K_X10_keptBy eq10)) (E_X10_keptBy eq10 (by omega)) rfl ?_
            show Ev xs N (d + 1) 137 42 [.ref a0, .int a1, .int a2, .int a3, ci_junk, ci_junk, ci_junk, ci_junk, ci_junk] [.int q10.1] q10.2 nx _
            refine ev_go hc_X11_finds (k := 4) (pc' := 48) (L' := [.ref a0, .int a1, .int a2, .int a3, .int q10.1, ci_junk, ci_junk, ci_junk, ci_junk]) (S' := [.ref a0, .int 10, .int 1]) rfl ?_
            obtain ⟨v11, ev11, H⟩ := Option.bind_eq_some_iff.mp H
            refine ev_4 hc_X11_finds (fe_X11_finds (pc := 48) rfl) (gR_gf ev11) ?_
            refine ev_go hc_X11_finds (k := 1) (pc' := 52) (L' := [.ref a0, .int a1, .int a2, .int a3, .int q10.1, ci_junk, ci_junk, ci_junk, ci_junk]) (S' := [.int a2, .ref v11, .int 10, .int 1]) rfl ?_
            obtain ⟨q12, eq12, H⟩ := Option.bind_eq_some_iff.mp H
            refine ev_call (vs := [.ref v11, .int a2]) (rest := [.int 10, .int 1]) (q := q_X10_namedBy) hc_X11_finds (Or.inr rfl) (fe_X11_finds (pc := 52) rfl) ms_72 rfl rfl (Nat.le_of_ble_eq_true rfl) (kO_recv (K_X10_namedBy eq12)) (E_X10_namedBy eq12 (by omega)) rfl ?_
            show Ev xs N (d + 1) 137 55 [.ref a0, .int a1, .int a2, .int a3, .int q10.1, ci_junk, ci_junk, ci_junk, ci_junk] [.int q12.1, .int 10, .int 1] q12.2 nx _
            obtain ⟨q13, eq13, H⟩ := Option.bind_eq_some_iff.mp H
            refine ev_call (vs := [.int 10, .int q12.1]) (rest := [.int 1]) (q := q_X11_power) hc_X11_finds (Or.inl rfl) (fe_X11_finds (pc := 55) rfl) ms_160 rfl rfl (Nat.le_of_ble_eq_true rfl) rfl (E_X11_power eq13 (by omega)) rfl ?_
            show Ev xs N (d + 1) 137 58 [.ref a0, .int a1, .int a2, .int a3, .int q10.1, ci_junk, ci_junk, ci_junk, ci_junk] [.int q13.1, .int 1] q13.2 nx _
            refine ev_15 hc_X11_finds (fe_X11_finds (pc := 58) rfl) (S' := [.int (if 1 < q13.1 then q13.1 else 1)]) rfl ?_
            refine ev_go hc_X11_finds (k := 2) (pc' := 64) (L' := [.ref a0, .int a1, .int a2, .int a3, .int q10.1, .int (if 1 < q13.1 then q13.1 else 1), ci_junk, ci_junk, ci_junk]) (S' := [.ref a0]) rfl ?_
            obtain ⟨h14, eh14, H⟩ := Option.bind_eq_some_iff.mp H
            refine ev_call (vs := [.ref a0]) (rest := []) (q := q_X11_startChances) hc_X11_finds (Or.inr rfl) (fe_X11_finds (pc := 64) rfl) ms_162 rfl rfl (Nat.le_of_ble_eq_true rfl) (kO_recv (K_X11_startChances eh14)) (E_X11_startChances eh14 (by omega)) rfl ?_
            show Ev xs N (d + 1) 137 67 [.ref a0, .int a1, .int a2, .int a3, .int q10.1, .int (if 1 < q13.1 then q13.1 else 1), ci_junk, ci_junk, ci_junk] [] h14 nx _
            refine ev_go hc_X11_finds (k := 2) (pc' := 70) (L' := [.ref a0, .int a1, .int a2, .int a3, .int q10.1, .int (if 1 < q13.1 then q13.1 else 1), .int 0, ci_junk, ci_junk]) (S' := []) rfl ?_
            exact Ev.weak (ci_le_c (Or.inr rfl) (ci_le_c (Or.inl rfl) (ci_le_c (Or.inr rfl) (ci_le_c (Or.inr rfl) (ci_le_c (Or.inr rfl) (ci_le_c (Or.inr rfl) (ci_le_c (Or.inr rfl) (ci_le_c (Or.inl rfl) (ci_le_c (Or.inl rfl) (ci_le_n)))))))))) (eb_X11_finds_70 hd bigN _ _ _ H)
          · rw [if_neg c8] at H
            refine ev_bf hc_X11_finds (fe_X11_finds (pc := 29) rfl) rfl c8 ?_
            refine ev_go hc_X11_finds (k := 1) (pc' := 33) (L' := [.ref a0, .int a1, .int a2, .int a3, ci_junk, ci_junk, ci_junk, ci_junk, ci_junk]) (S' := [.int ((-1))]) rfl ?_
            obtain rfl := Option.some.inj H
            exact ev_8 hc_X11_finds (fe_X11_finds (pc := 33) rfl) rfl
  · rw [if_neg ck] at H; cases H
theorem hc_X11_gain : ci_code (ci_Ms 165) = k_X11_gain := rfl
theorem fe_X11_gain {pc : Nat} {w : Option ci_I} (h : (k_X11_gain)[pc]? = some w) : (k_X11_gain)[pc]? = some w := h
def b_X11_gain_22 (l0 : Int32) (l3 : Int32) (l4 : Int32)  (h : ci_H) : Option (Int32 × ci_H) := some (l4 - (l3 * l0), h)
set_option maxHeartbeats 4000000 in
set_option maxRecDepth 20000 in
theorem eb_X11_gain_22 {xs : Nat → Int32} {N d : Nat} {nx : ci_N} {l0 : Int32} {l3 : Int32} {l4 : Int32} {h : ci_H} {r : Int32 × ci_H} (H : b_X11_gain_22 l0 l3 l4 h = some r) : Ev xs N d 165 22 [.int l0, ci_junk, ci_junk, .int l3, .int l4] [] h nx (oI r nx) := by
  unfold b_X11_gain_22 at H
  refine ev_go hc_X11_gain (k := 5) (pc' := 28) (L' := [.int l0, ci_junk, ci_junk, .int l3, .int l4]) (S' := [.int (l4 - (l3 * l0))]) rfl ?_
  obtain rfl := Option.some.inj H
  exact ev_8 hc_X11_gain (fe_X11_gain (pc := 28) rfl) rfl
def b_X11_gain_10 (l0 : Int32) (l1 : Int32) (l2 : Int32) (l3 : Int32) (s0 : Int32)  (h : ci_H) : Option (Int32 × ci_H) := if l0 = l1 then ((dvI l2 2).bind fun v2 => b_X11_gain_22 l0 l3 v2 h) else (b_X11_gain_22 l0 l3 s0 h)
set_option maxHeartbeats 4000000 in
set_option maxRecDepth 20000 in
theorem eb_X11_gain_10 {xs : Nat → Int32} {N d : Nat} {nx : ci_N} {l0 : Int32} {l1 : Int32} {l2 : Int32} {l3 : Int32} {s0 : Int32} {h : ci_H} {r : Int32 × ci_H} (H : b_X11_gain_10 l0 l1 l2 l3 s0 h = some r) : Ev xs N d 165 10 [.int l0, .int l1, .int l2, .int l3, ci_junk] [.int s0] h nx (oI r nx) := by
  unfold b_X11_gain_10 at H
  refine ev_go hc_X11_gain (k := 3) (pc' := 14) (L' := [.int l0, .int l1, .int l2, .int l3, .int s0]) (S' := [.int l1, .int l0]) rfl ?_
  by_cases c1 : l0 = l1
  · rw [if_pos c1] at H
    refine ev_bt hc_X11_gain (fe_X11_gain (pc := 14) rfl) rfl c1 ?_
    refine ev_go hc_X11_gain (k := 2) (pc' := 19) (L' := [.int l0, .int l1, .int l2, .int l3, .int s0]) (S' := [.int 2, .int l2]) rfl ?_
    obtain ⟨v2, ev2, H⟩ := Option.bind_eq_some_iff.mp H
    refine ev_1 hc_X11_gain (fe_X11_gain (pc := 19) rfl) (dvI_st ev2) ?_
    refine ev_go hc_X11_gain (k := 1) (pc' := 22) (L' := [.int l0, .int l1, .int l2, .int l3, .int v2]) (S' := []) rfl ?_
    exact Ev.weak (ci_le_c (Or.inr rfl) (ci_le_c (Or.inl rfl) (ci_le_c (Or.inl rfl) (ci_le_c (Or.inr rfl) (ci_le_c (Or.inr rfl) (ci_le_n)))))) (eb_X11_gain_22 H)
  · rw [if_neg c1] at H
    refine ev_bf hc_X11_gain (fe_X11_gain (pc := 14) rfl) rfl c1 ?_
    exact Ev.weak (ci_le_c (Or.inr rfl) (ci_le_c (Or.inl rfl) (ci_le_c (Or.inl rfl) (ci_le_c (Or.inr rfl) (ci_le_c (Or.inr rfl) (ci_le_n)))))) (eb_X11_gain_22 H)
def F_X11_gain (a0 : Int32) (a1 : Int32) (a2 : Int32) (a3 : Int32) (h : ci_H) : Option (Int32 × ci_H) := if a0 ≤ a1 then (b_X11_gain_10 a0 a1 a2 a3 0 h) else (b_X11_gain_10 a0 a1 a2 a3 a2 h)
set_option maxHeartbeats 4000000 in
set_option maxRecDepth 20000 in
theorem E_X11_gain {xs : Nat → Int32} {N d : Nat} {nx : ci_N} {a0 : Int32} {a1 : Int32} {a2 : Int32} {a3 : Int32} {h : ci_H} {r : Int32 × ci_H} (H : F_X11_gain a0 a1 a2 a3 h = some r) (hd : 0 ≤ d) : Ev xs N d 165 0 (ci_entry [.int a0, .int a1, .int a2, .int a3] 5) [] h nx (oI r nx) := by
  unfold F_X11_gain at H
  show Ev xs N d 165 0 [.int a0, .int a1, .int a2, .int a3, ci_junk] [] h nx _
  refine ev_go hc_X11_gain (k := 2) (pc' := 2) (L' := [.int a0, .int a1, .int a2, .int a3, ci_junk]) (S' := [.int a1, .int a0]) rfl ?_
  by_cases c1 : a0 ≤ a1
  · rw [if_pos c1] at H
    refine ev_bt hc_X11_gain (fe_X11_gain (pc := 2) rfl) rfl c1 ?_
    refine ev_go hc_X11_gain (k := 1) (pc' := 10) (L' := [.int a0, .int a1, .int a2, .int a3, ci_junk]) (S' := [.int 0]) rfl ?_
    exact Ev.weak (ci_le_c (Or.inr rfl) (ci_le_c (Or.inr rfl) (ci_le_c (Or.inr rfl) (ci_le_c (Or.inr rfl) (ci_le_c (Or.inl rfl) (ci_le_n)))))) (eb_X11_gain_10 H)
  · rw [if_neg c1] at H
    refine ev_bf hc_X11_gain (fe_X11_gain (pc := 2) rfl) rfl c1 ?_
    refine ev_go hc_X11_gain (k := 2) (pc' := 10) (L' := [.int a0, .int a1, .int a2, .int a3, ci_junk]) (S' := [.int a2]) rfl ?_
    exact Ev.weak (ci_le_c (Or.inr rfl) (ci_le_c (Or.inr rfl) (ci_le_c (Or.inr rfl) (ci_le_c (Or.inr rfl) (ci_le_c (Or.inl rfl) (ci_le_n)))))) (eb_X11_gain_10 H)
theorem hc_X11_stays : ci_code (ci_Ms 164) = k_X11_stays := rfl
theorem fe_X11_stays {pc : Nat} {w : Option ci_I} (h : (k_X11_stays)[pc]? = some w) : (k_X11_stays)[pc]? = some w := h
def b_X11_stays_12 (l1 : Int32) (l2 : Int32) (l3 : Int32) (l4 : Int32) : Nat → Int32 → ci_H → Option (Int32 × ci_H)
  | 0, _, _ => none
  | n + 1, l5, h => if 9 < l5 then (some (1, h)) else ((F_X11_gain l5 l1 l2 l3 h).bind fun q2 => if q2.1 ≤ l4 then (b_X11_stays_12 l1 l2 l3 l4 n (l5 + 1) q2.2) else (some (0, q2.2)))
set_option maxHeartbeats 4000000 in
set_option maxRecDepth 20000 in
theorem eb_X11_stays_12 {xs : Nat → Int32} {N d : Nat} {nx : ci_N} {l1 : Int32} {l2 : Int32} {l3 : Int32} {l4 : Int32} (hd : 0 ≤ d) : ∀ (n : Nat) (l5 : Int32) (h : ci_H) (r : Int32 × ci_H), b_X11_stays_12 l1 l2 l3 l4 n l5 h = some r → Ev xs N (d + 1) 164 12 [ci_junk, .int l1, .int l2, .int l3, .int l4, .int l5] [] h nx (oI r nx) := by
  intro n
  induction n with
  | zero => intro l5 h r H; unfold b_X11_stays_12 at H; cases H
  | succ n ih =>
    intro l5 h r H
    unfold b_X11_stays_12 at H
    refine ev_go hc_X11_stays (k := 2) (pc' := 16) (L' := [ci_junk, .int l1, .int l2, .int l3, .int l4, .int l5]) (S' := [.int 9, .int l5]) rfl ?_
    by_cases c1 : 9 < l5
    · rw [if_pos c1] at H
      refine ev_bt hc_X11_stays (fe_X11_stays (pc := 16) rfl) rfl c1 ?_
      refine ev_go hc_X11_stays (k := 1) (pc' := 41) (L' := [ci_junk, .int l1, .int l2, .int l3, .int l4, .int l5]) (S' := [.int 1]) rfl ?_
      obtain rfl := Option.some.inj H
      exact ev_8z hc_X11_stays (fe_X11_stays (pc := 41) rfl) rfl (Or.inr rfl)
    · rw [if_neg c1] at H
      refine ev_bf hc_X11_stays (fe_X11_stays (pc := 16) rfl) rfl c1 ?_
      refine ev_go hc_X11_stays (k := 4) (pc' := 24) (L' := [ci_junk, .int l1, .int l2, .int l3, .int l4, .int l5]) (S' := [.int l3, .int l2, .int l1, .int l5]) rfl ?_
      obtain ⟨q2, eq2, H⟩ := Option.bind_eq_some_iff.mp H
      refine ev_call (vs := [.int l5, .int l1, .int l2, .int l3]) (rest := []) (q := q_X11_gain) hc_X11_stays (Or.inl rfl) (fe_X11_stays (pc := 24) rfl) ms_165 rfl rfl (Nat.le_of_ble_eq_true rfl) rfl (E_X11_gain eq2 (by omega)) rfl ?_
      show Ev xs N (d + 1) 164 27 [ci_junk, .int l1, .int l2, .int l3, .int l4, .int l5] [.int q2.1] q2.2 nx _
      refine ev_go hc_X11_stays (k := 1) (pc' := 29) (L' := [ci_junk, .int l1, .int l2, .int l3, .int l4, .int l5]) (S' := [.int l4, .int q2.1]) rfl ?_
      by_cases c3 : q2.1 ≤ l4
      · rw [if_pos c3] at H
        refine ev_bt hc_X11_stays (fe_X11_stays (pc := 29) rfl) rfl c3 ?_
        refine ev_go hc_X11_stays (k := 2) (pc' := 12) (L' := [ci_junk, .int l1, .int l2, .int l3, .int l4, .int (l5 + 1)]) (S' := []) rfl ?_
        exact Ev.weak (ci_le_c (Or.inl rfl) (ci_le_c (Or.inr rfl) (ci_le_c (Or.inr rfl) (ci_le_c (Or.inr rfl) (ci_le_c (Or.inr rfl) (ci_le_c (Or.inr rfl) (ci_le_n))))))) (ih _ _ _ H)
      · rw [if_neg c3] at H
        refine ev_bf hc_X11_stays (fe_X11_stays (pc := 29) rfl) rfl c3 ?_
        refine ev_go hc_X11_stays (k := 1) (pc' := 33) (L' := [ci_junk, .int l1, .int l2, .int l3, .int l4, .int l5]) (S' := [.int 0]) rfl ?_
        obtain rfl := Option.some.inj H
        exact ev_8z hc_X11_stays (fe_X11_stays (pc := 33) rfl) rfl (Or.inl rfl)
def F_X11_stays (a0 : Int32) (a1 : Int32) (a2 : Int32) (a3 : Int32) (h : ci_H) : Option (Int32 × ci_H) := (F_X11_gain a0 a1 a2 a3 h).bind fun q1 => b_X11_stays_12 a1 a2 a3 q1.1 bigN 0 q1.2
set_option maxHeartbeats 4000000 in
set_option maxRecDepth 20000 in
theorem E_X11_stays {xs : Nat → Int32} {N d : Nat} {nx : ci_N} {a0 : Int32} {a1 : Int32} {a2 : Int32} {a3 : Int32} {h : ci_H} {r : Int32 × ci_H} (H : F_X11_stays a0 a1 a2 a3 h = some r) (hd : 1 ≤ d) : Ev xs N d 164 0 (ci_entry [.int a0, .int a1, .int a2, .int a3] 6) [] h nx (oI r nx) := by
  obtain ⟨d, rfl⟩ : ∃ d2, d = d2 + 1 := ⟨d - 1, by omega⟩
  have hd : 0 ≤ d := by omega
  unfold F_X11_stays at H
  show Ev xs N (d + 1) 164 0 [.int a0, .int a1, .int a2, .int a3, ci_junk, ci_junk] [] h nx _
  refine ev_go hc_X11_stays (k := 4) (pc' := 4) (L' := [.int a0, .int a1, .int a2, .int a3, ci_junk, ci_junk]) (S' := [.int a3, .int a2, .int a1, .int a0]) rfl ?_
  obtain ⟨q1, eq1, H⟩ := Option.bind_eq_some_iff.mp H
  refine ev_call (vs := [.int a0, .int a1, .int a2, .int a3]) (rest := []) (q := q_X11_gain) hc_X11_stays (Or.inl rfl) (fe_X11_stays (pc := 4) rfl) ms_165 rfl rfl (Nat.le_of_ble_eq_true rfl) rfl (E_X11_gain eq1 (by omega)) rfl ?_
  show Ev xs N (d + 1) 164 7 [.int a0, .int a1, .int a2, .int a3, ci_junk, ci_junk] [.int q1.1] q1.2 nx _
  refine ev_go hc_X11_stays (k := 3) (pc' := 12) (L' := [.int a0, .int a1, .int a2, .int a3, .int q1.1, .int 0]) (S' := []) rfl ?_
  exact Ev.weak (ci_le_c (Or.inl rfl) (ci_le_c (Or.inr rfl) (ci_le_c (Or.inr rfl) (ci_le_c (Or.inr rfl) (ci_le_c (Or.inr rfl) (ci_le_c (Or.inr rfl) (ci_le_n))))))) (eb_X11_stays_12 hd bigN _ _ _ H)
theorem hc_X11_rests : ci_code (ci_Ms 138) = k_X11_rests := rfl
theorem fe_X11_rests {pc : Nat} {w : Option ci_I} (h : (k_X11_rests)[pc]? = some w) : (k_X11_rests)[pc]? = some w := h
def b_X11_rests_89 (r_31 : Int32 → Int32 → ci_H → Option (Int32 × ci_H)) (r_41 : Int32 → Int32 → ci_H → Option (Int32 × ci_H)) (l0 : Nat) (l1 : Int32) (l2 : Int32) (l3 : Int32) (l4 : Int32) (l5 : Int32)  (h : ci_H) : Option (Int32 × ci_H) := r_41 l3 (l5 + 1) h
set_option maxHeartbeats 4000000 in
set_option maxRecDepth 20000 in
theorem eb_X11_rests_89 {xs : Nat → Int32} {N d : Nat} {nx : ci_N} {r_31 : Int32 → Int32 → ci_H → Option (Int32 × ci_H)} {r_41 : Int32 → Int32 → ci_H → Option (Int32 × ci_H)} {l0 : Nat} {l1 : Int32} {l2 : Int32} {l3 : Int32} {l4 : Int32} {l5 : Int32} (hd : 1 ≤ d) (h_31 : ∀ (l3 : Int32) (l4 : Int32) (h : ci_H) (r : Int32 × ci_H), r_31 l3 l4 h = some r → Ev xs N (d + 1) 138 31 [.ref l0, .int l1, .int l2, .int l3, .int l4, ci_junk] [] h nx (oI r nx)) (h_41 : ∀ (l3 : Int32) (l5 : Int32) (h : ci_H) (r : Int32 × ci_H), r_41 l3 l5 h = some r → Ev xs N (d + 1) 138 41 [.ref l0, .int l1, .int l2, .int l3, .int l4, .int l5] [] h nx (oI r nx)) {h : ci_H} {r : Int32 × ci_H} (H : b_X11_rests_89 r_31 r_41 l0 l1 l2 l3 l4 l5 h = some r) : Ev xs N (d + 1) 138 89 [.ref l0, .int l1, .int l2, .int l3, .int l4, .int l5] [] h nx (oI r nx) := by
  unfold b_X11_rests_89 at H
  refine ev_go hc_X11_rests (k := 2) (pc' := 41) (L' := [.ref l0, .int l1, .int l2, .int l3, .int l4, .int (l5 + 1)]) (S' := []) rfl ?_
  exact Ev.weak (ci_le_c (Or.inr rfl) (ci_le_c (Or.inr rfl) (ci_le_c (Or.inr rfl) (ci_le_c (Or.inr rfl) (ci_le_c (Or.inr rfl) (ci_le_c (Or.inr rfl) (ci_le_n))))))) (h_41 _ _ _ _ H)
def b_X11_rests_86 (r_31 : Int32 → Int32 → ci_H → Option (Int32 × ci_H)) (r_41 : Int32 → Int32 → ci_H → Option (Int32 × ci_H)) (l0 : Nat) (l1 : Int32) (l2 : Int32) (l3 : Int32) (l4 : Int32) (l5 : Int32)  (h : ci_H) : Option (Int32 × ci_H) := b_X11_rests_89 r_31 r_41 l0 l1 l2 (l3 + 1) l4 l5 h
set_option maxHeartbeats 4000000 in
set_option maxRecDepth 20000 in
theorem eb_X11_rests_86 {xs : Nat → Int32} {N d : Nat} {nx : ci_N} {r_31 : Int32 → Int32 → ci_H → Option (Int32 × ci_H)} {r_41 : Int32 → Int32 → ci_H → Option (Int32 × ci_H)} {l0 : Nat} {l1 : Int32} {l2 : Int32} {l3 : Int32} {l4 : Int32} {l5 : Int32} (hd : 1 ≤ d) (h_31 : ∀ (l3 : Int32) (l4 : Int32) (h : ci_H) (r : Int32 × ci_H), r_31 l3 l4 h = some r → Ev xs N (d + 1) 138 31 [.ref l0, .int l1, .int l2, .int l3, .int l4, ci_junk] [] h nx (oI r nx)) (h_41 : ∀ (l3 : Int32) (l5 : Int32) (h : ci_H) (r : Int32 × ci_H), r_41 l3 l5 h = some r → Ev xs N (d + 1) 138 41 [.ref l0, .int l1, .int l2, .int l3, .int l4, .int l5] [] h nx (oI r nx)) {h : ci_H} {r : Int32 × ci_H} (H : b_X11_rests_86 r_31 r_41 l0 l1 l2 l3 l4 l5 h = some r) : Ev xs N (d + 1) 138 86 [.ref l0, .int l1, .int l2, .int l3, .int l4, .int l5] [] h nx (oI r nx) := by
  unfold b_X11_rests_86 at H
  refine ev_go hc_X11_rests (k := 1) (pc' := 89) (L' := [.ref l0, .int l1, .int l2, .int (l3 + 1), .int l4, .int l5]) (S' := []) rfl ?_
  exact Ev.weak (ci_le_c (Or.inr rfl) (ci_le_c (Or.inr rfl) (ci_le_c (Or.inr rfl) (ci_le_c (Or.inr rfl) (ci_le_c (Or.inr rfl) (ci_le_c (Or.inr rfl) (ci_le_n))))))) (eb_X11_rests_89 hd h_31 h_41 H)
def b_X11_rests_41 (r_31 : Int32 → Int32 → ci_H → Option (Int32 × ci_H)) (l0 : Nat) (l1 : Int32) (l2 : Int32) (l4 : Int32) : Nat → Int32 → Int32 → ci_H → Option (Int32 × ci_H)
  | 0, _, _, _ => none
  | n + 1, l3, l5, h => if 9 < l5 then (r_31 l3 (l4 + 1) h) else ((F_X11_stays l4 l5 l1 l2 h).bind fun q2 => if q2.1 = 0 then (b_X11_rests_89 r_31 (fun x0 x1 x2 => b_X11_rests_41 r_31 l0 l1 l2 l4 n x0 x1 x2) l0 l1 l2 l3 l4 l5 q2.2) else ((F_X11_stays l5 l4 l1 l2 q2.2).bind fun q4 => if q4.1 = 0 then (b_X11_rests_89 r_31 (fun x0 x1 x2 => b_X11_rests_41 r_31 l0 l1 l2 l4 n x0 x1 x2) l0 l1 l2 l3 l4 l5 q4.2) else (if l3 = 0 then ((F_X11_tellTwo l0 ((l4 : Int32).toInt64) ((l5 : Int32).toInt64) q4.2).bind fun h7 => b_X11_rests_86 r_31 (fun x0 x1 x2 => b_X11_rests_41 r_31 l0 l1 l2 l4 n x0 x1 x2) l0 l1 l2 l3 l4 l5 h7) else (b_X11_rests_86 r_31 (fun x0 x1 x2 => b_X11_rests_41 r_31 l0 l1 l2 l4 n x0 x1 x2) l0 l1 l2 l3 l4 l5 q4.2))))
set_option maxHeartbeats 4000000 in
set_option maxRecDepth 20000 in
theorem eb_X11_rests_41 {xs : Nat → Int32} {N d : Nat} {nx : ci_N} {r_31 : Int32 → Int32 → ci_H → Option (Int32 × ci_H)} {l0 : Nat} {l1 : Int32} {l2 : Int32} {l4 : Int32} (hd : 1 ≤ d) (h_31 : ∀ (l3 : Int32) (l4 : Int32) (h : ci_H) (r : Int32 × ci_H), r_31 l3 l4 h = some r → Ev xs N (d + 1) 138 31 [.ref l0, .int l1, .int l2, .int l3, .int l4, ci_junk] [] h nx (oI r nx)) : ∀ (n : Nat) (l3 : Int32) (l5 : Int32) (h : ci_H) (r : Int32 × ci_H), b_X11_rests_41 r_31 l0 l1 l2 l4 n l3 l5 h = some r → Ev xs N (d + 1) 138 41 [.ref l0, .int l1, .int l2, .int l3, .int l4, .int l5] [] h nx (oI r nx) := by
  intro n
  induction n with
  | zero => intro l3 l5 h r H; unfold b_X11_rests_41 at H; cases H
  | succ n ih =>
    intro l3 l5 h r H
    unfold b_X11_rests_41 at H
    refine ev_go hc_X11_rests (k := 2) (pc' := 45) (L' := [.ref l0, .int l1, .int l2, .int l3, .int l4, .int l5]) (S' := [.int 9, .int l5]) rfl ?_
    by_cases c1 : 9 < l5
    · rw [if_pos c1] at H
      refine ev_bt hc_X11_rests (fe_X11_rests (pc := 45) rfl) rfl c1 ?_
      refine ev_go hc_X11_rests (k := 2) (pc' := 31) (L' := [.ref l0, .int l1, .int l2, .int l3, .int (l4 + 1), .int l5]) (S' := []) rfl ?_
      exact Ev.weak (ci_le_c (Or.inr rfl) (ci_le_c (Or.inr rfl) (ci_le_c (Or.inr rfl) (ci_le_c (Or.inr rfl) (ci_le_c (Or.inr rfl) (ci_le_c (Or.inl rfl) (ci_le_n))))))) (h_31 _ _ _ _ H)
    · rw [if_neg c1] at H
      refine ev_bf hc_X11_rests (fe_X11_rests (pc := 45) rfl) rfl c1 ?_
      refine ev_go hc_X11_rests (k := 4) (pc' := 54) (L' := [.ref l0, .int l1, .int l2, .int l3, .int l4, .int l5]) (S' := [.int l2, .int l1, .int l5, .int l4]) rfl ?_
      obtain ⟨q2, eq2, H⟩ := Option.bind_eq_some_iff.mp H
      refine ev_call (vs := [.int l4, .int l5, .int l1, .int l2]) (rest := []) (q := q_X11_stays) hc_X11_rests (Or.inl rfl) (fe_X11_rests (pc := 54) rfl) ms_164 rfl rfl (Nat.le_of_ble_eq_true rfl) rfl (E_X11_stays eq2 (by omega)) rfl ?_
      show Ev xs N (d + 1) 138 57 [.ref l0, .int l1, .int l2, .int l3, .int l4, .int l5] [.int q2.1] q2.2 nx _
      by_cases c3 : q2.1 = 0
      · rw [if_pos c3] at H
        refine ev_bt hc_X11_rests (fe_X11_rests (pc := 57) rfl) rfl c3 ?_
        exact Ev.weak (ci_le_c (Or.inr rfl) (ci_le_c (Or.inr rfl) (ci_le_c (Or.inr rfl) (ci_le_c (Or.inr rfl) (ci_le_c (Or.inr rfl) (ci_le_c (Or.inr rfl) (ci_le_n))))))) (eb_X11_rests_89 hd h_31 ih H)
      · rw [if_neg c3] at H
        refine ev_bf hc_X11_rests (fe_X11_rests (pc := 57) rfl) rfl c3 ?_
        refine ev_go hc_X11_rests (k := 4) (pc' := 66) (L' := [.ref l0, .int l1, .int l2, .int l3, .int l4, .int l5]) (S' := [.int l2, .int l1, .int l4, .int l5]) rfl ?_
        obtain ⟨q4, eq4, H⟩ := Option.bind_eq_some_iff.mp H
        refine ev_call (vs := [.int l5, .int l4, .int l1, .int l2]) (rest := []) (q := q_X11_stays) hc_X11_rests (Or.inl rfl) (fe_X11_rests (pc := 66) rfl) ms_164 rfl rfl (Nat.le_of_ble_eq_true rfl) rfl (E_X11_stays eq4 (by omega)) rfl ?_
        show Ev xs N (d + 1) 138 69 [.ref l0, .int l1, .int l2, .int l3, .int l4, .int l5] [.int q4.1] q4.2 nx _
        by_cases c5 : q4.1 = 0
        · rw [if_pos c5] at H
          refine ev_bt hc_X11_rests (fe_X11_rests (pc := 69) rfl) rfl c5 ?_
          exact Ev.weak (ci_le_c (Or.inr rfl) (ci_le_c (Or.inr rfl) (ci_le_c (Or.inr rfl) (ci_le_c (Or.inr rfl) (ci_le_c (Or.inr rfl) (ci_le_c (Or.inr rfl) (ci_le_n))))))) (eb_X11_rests_89 hd h_31 ih H)
        · rw [if_neg c5] at H
          refine ev_bf hc_X11_rests (fe_X11_rests (pc := 69) rfl) rfl c5 ?_
          refine ev_go hc_X11_rests (k := 1) (pc' := 73) (L' := [.ref l0, .int l1, .int l2, .int l3, .int l4, .int l5]) (S' := [.int l3]) rfl ?_
          by_cases c6 : l3 = 0
          · rw [if_pos c6] at H
            refine ev_bt hc_X11_rests (fe_X11_rests (pc := 73) rfl) rfl c6 ?_
            refine ev_go hc_X11_rests (k := 5) (pc' := 83) (L' := [.ref l0, .int l1, .int l2, .int l3, .int l4, .int l5]) (S' := [.long ((l5 : Int32).toInt64), .long ((l4 : Int32).toInt64), .ref l0]) rfl ?_
            obtain ⟨h7, eh7, H⟩ := Option.bind_eq_some_iff.mp H
            refine ev_call (vs := [.ref l0, .long ((l4 : Int32).toInt64), .long ((l5 : Int32).toInt64)]) (rest := []) (q := q_X11_tellTwo) hc_X11_rests (Or.inr rfl) (fe_X11_rests (pc := 83) rfl) ms_148 rfl rfl (Nat.le_of_ble_eq_true rfl) (kO_recv (K_X11_tellTwo eh7)) (E_X11_tellTwo eh7 (by omega)) rfl ?_
            show Ev xs N (d + 1) 138 86 [.ref l0, .int l1, .int l2, .int l3, .int l4, .int l5] [] h7 nx _
            exact Ev.weak (ci_le_c (Or.inr rfl) (ci_le_c (Or.inr rfl) (ci_le_c (Or.inr rfl) (ci_le_c (Or.inr rfl) (ci_le_c (Or.inr rfl) (ci_le_c (Or.inr rfl) (ci_le_n))))))) (eb_X11_rests_86 hd h_31 ih H)
          · rw [if_neg c6] at H
            refine ev_bf hc_X11_rests (fe_X11_rests (pc := 73) rfl) rfl c6 ?_
            exact Ev.weak (ci_le_c (Or.inr rfl) (ci_le_c (Or.inr rfl) (ci_le_c (Or.inr rfl) (ci_le_c (Or.inr rfl) (ci_le_c (Or.inr rfl) (ci_le_c (Or.inr rfl) (ci_le_n))))))) (eb_X11_rests_86 hd h_31 ih H)
def b_X11_rests_31 (l0 : Nat) (l1 : Int32) (l2 : Int32) : Nat → Int32 → Int32 → ci_H → Option (Int32 × ci_H)
  | 0, _, _, _ => none
  | n + 1, l3, l4, h => if 9 < l4 then (some (l3, h)) else (b_X11_rests_41 (fun x0 x1 x2 => b_X11_rests_31 l0 l1 l2 n x0 x1 x2) l0 l1 l2 l4 bigN l3 0 h)
set_option maxHeartbeats 4000000 in
set_option maxRecDepth 20000 in
theorem eb_X11_rests_31 {xs : Nat → Int32} {N d : Nat} {nx : ci_N} {l0 : Nat} {l1 : Int32} {l2 : Int32} (hd : 1 ≤ d) : ∀ (n : Nat) (l3 : Int32) (l4 : Int32) (h : ci_H) (r : Int32 × ci_H), b_X11_rests_31 l0 l1 l2 n l3 l4 h = some r → Ev xs N (d + 1) 138 31 [.ref l0, .int l1, .int l2, .int l3, .int l4, ci_junk] [] h nx (oI r nx) := by
  intro n
  induction n with
  | zero => intro l3 l4 h r H; unfold b_X11_rests_31 at H; cases H
  | succ n ih =>
    intro l3 l4 h r H
    unfold b_X11_rests_31 at H
    refine ev_go hc_X11_rests (k := 2) (pc' := 35) (L' := [.ref l0, .int l1, .int l2, .int l3, .int l4, ci_junk]) (S' := [.int 9, .int l4]) rfl ?_
    by_cases c1 : 9 < l4
    · rw [if_pos c1] at H
      refine ev_bt hc_X11_rests (fe_X11_rests (pc := 35) rfl) rfl c1 ?_
      refine ev_go hc_X11_rests (k := 1) (pc' := 102) (L' := [.ref l0, .int l1, .int l2, .int l3, .int l4, ci_junk]) (S' := [.int l3]) rfl ?_
      obtain rfl := Option.some.inj H
      exact ev_8 hc_X11_rests (fe_X11_rests (pc := 102) rfl) rfl
    · rw [if_neg c1] at H
      refine ev_bf hc_X11_rests (fe_X11_rests (pc := 35) rfl) rfl c1 ?_
      refine ev_go hc_X11_rests (k := 2) (pc' := 41) (L' := [.ref l0, .int l1, .int l2, .int l3, .int l4, .int 0]) (S' := []) rfl ?_
      exact Ev.weak (ci_le_c (Or.inr rfl) (ci_le_c (Or.inr rfl) (ci_le_c (Or.inr rfl) (ci_le_c (Or.inr rfl) (ci_le_c (Or.inr rfl) (ci_le_c (Or.inr rfl) (ci_le_n))))))) (eb_X11_rests_41 hd ih bigN _ _ _ _ H)
def F_X11_rests (a0 : Nat) (a1 : Int32) (a2 : Int32) (h : ci_H) : Option (Int32 × ci_H) := if kO h a0 = some 11 then (if a1 < 0 then (some ((-1), h)) else (if 99 < a1 then (some ((-1), h)) else (if a2 < 0 then (some ((-1), h)) else (if a2 ≤ 9 then ((F_X11_tellNothing a0 h).bind fun h5 => b_X11_rests_31 a0 a1 a2 bigN 0 0 h5) else (some ((-1), h)))))) else none
theorem K_X11_rests {a0 : Nat} {a1 : Int32} {a2 : Int32} {h : ci_H} {r : Int32 × ci_H} (H : F_X11_rests a0 a1 a2 h = some r) : kO h a0 = some 11 := by
  unfold F_X11_rests at H
  by_cases c : kO h a0 = some 11
  · exact c
  · rw [if_neg c] at H; cases H
set_option maxHeartbeats 4000000 in
set_option maxRecDepth 20000 in
theorem E_X11_rests {xs : Nat → Int32} {N d : Nat} {nx : ci_N} {a0 : Nat} {a1 : Int32} {a2 : Int32} {h : ci_H} {r : Int32 × ci_H} (H : F_X11_rests a0 a1 a2 h = some r) (hd : 2 ≤ d) : Ev xs N d 138 0 (ci_entry [.ref a0, .int a1, .int a2] 6) [] h nx (oI r nx) := by
  obtain ⟨d, rfl⟩ : ∃ d2, d = d2 + 1 := ⟨d - 1, by omega⟩
  have hd : 1 ≤ d := by omega
  unfold F_X11_rests at H
  by_cases ck : kO h a0 = some 11
  · rw [if_pos ck] at H
    show Ev xs N (d + 1) 138 0 [.ref a0, .int a1, .int a2, ci_junk, ci_junk, ci_junk] [] h nx _
    refine ev_go hc_X11_rests (k := 1) (pc' := 1) (L' := [.ref a0, .int a1, .int a2, ci_junk, ci_junk, ci_junk]) (S' := [.int a1]) rfl ?_
    by_cases c1 : a1 < 0
    · rw [if_pos c1] at H
      refine ev_bt hc_X11_rests (fe_X11_rests (pc := 1) rfl) rfl c1 ?_
      refine ev_go hc_X11_rests (k := 1) (pc' := 21) (L' := [.ref a0, .int a1, .int a2, ci_junk, ci_junk, ci_junk]) (S' := [.int ((-1))]) rfl ?_
      obtain rfl := Option.some.inj H
      exact ev_8 hc_X11_rests (fe_X11_rests (pc := 21) rfl) rfl
    · rw [if_neg c1] at H
      refine ev_bf hc_X11_rests (fe_X11_rests (pc := 1) rfl) rfl c1 ?_
      refine ev_go hc_X11_rests (k := 2) (pc' := 7) (L' := [.ref a0, .int a1, .int a2, ci_junk, ci_junk, ci_junk]) (S' := [.int 99, .int a1]) rfl ?_
      by_cases c2 : 99 < a1
      · rw [if_pos c2] at H
        refine ev_bt hc_X11_rests (fe_X11_rests (pc := 7) rfl) rfl c2 ?_
        refine ev_go hc_X11_rests (k := 1) (pc' := 21) (L' := [.ref a0, .int a1, .int a2, ci_junk, ci_junk, ci_junk]) (S' := [.int ((-1))]) rfl ?_
        obtain rfl := Option.some.inj H
        exact ev_8 hc_X11_rests (fe_X11_rests (pc := 21) rfl) rfl
      · rw [if_neg c2] at H
        refine ev_bf hc_X11_rests (fe_X11_rests (pc := 7) rfl) rfl c2 ?_
        refine ev_go hc_X11_rests (k := 1) (pc' := 11) (L' := [.ref a0, .int a1, .int a2, ci_junk, ci_junk, ci_junk]) (S' := [.int a2]) rfl ?_
        by_cases c3 : a2 < 0
        · rw [if_pos c3] at H
          refine ev_bt hc_X11_rests (fe_X11_rests (pc := 11) rfl) rfl c3 ?_
          refine ev_go hc_X11_rests (k := 1) (pc' := 21) (L' := [.ref a0, .int a1, .int a2, ci_junk, ci_junk, ci_junk]) (S' := [.int ((-1))]) rfl ?_
          obtain rfl := Option.some.inj H
          exact ev_8 hc_X11_rests (fe_X11_rests (pc := 21) rfl) rfl
        · rw [if_neg c3] at H
          refine ev_bf hc_X11_rests (fe_X11_rests (pc := 11) rfl) rfl c3 ?_
          refine ev_go hc_X11_rests (k := 2) (pc' := 17) (L' := [.ref a0, .int a1, .int a2, ci_junk, ci_junk, ci_junk]) (S' := [.int 9, .int a2]) rfl ?_
          by_cases c4 : a2 ≤ 9
          · rw [if_pos c4] at H
            refine ev_bt hc_X11_rests (fe_X11_rests (pc := 17) rfl) rfl c4 ?_
            refine ev_go hc_X11_rests (k := 1) (pc' := 23) (L' := [.ref a0, .int a1, .int a2, ci_junk, ci_junk, ci_junk]) (S' := [.ref a0]) rfl ?_
            obtain ⟨h5, eh5, H⟩ := Option.bind_eq_some_iff.mp H
            refine ev_call (vs := [.ref a0]) (rest := []) (q := q_X11_tellNothing) hc_X11_rests (Or.inr rfl) (fe_X11_rests (pc := 23) rfl) ms_145 rfl rfl (Nat.le_of_ble_eq_true rfl) (kO_recv (K_X11_tellNothing eh5)) (E_X11_tellNothing eh5 (by omega)) rfl ?_
            show Ev xs N (d + 1) 138 26 [.ref a0, .int a1, .int a2, ci_junk, ci_junk, ci_junk] [] h5 nx _
            refine ev_go hc_X11_rests (k := 4) (pc' := 31) (L' := [.ref a0, .int a1, .int a2, .int 0, .int 0, ci_junk]) (S' := []) rfl ?_
            exact Ev.weak (ci_le_c (Or.inr rfl) (ci_le_c (Or.inr rfl) (ci_le_c (Or.inr rfl) (ci_le_c (Or.inr rfl) (ci_le_c (Or.inr rfl) (ci_le_c (Or.inl rfl) (ci_le_n))))))) (eb_X11_rests_31 hd bigN _ _ _ _ H)
          · rw [if_neg c4] at H
            refine ev_bf hc_X11_rests (fe_X11_rests (pc := 17) rfl) rfl c4 ?_
            refine ev_go hc_X11_rests (k := 1) (pc' := 21) (L' := [.ref a0, .int a1, .int a2, ci_junk, ci_junk, ci_junk]) (S' := [.int ((-1))]) rfl ?_
            obtain rfl := Option.some.inj H
            exact ev_8 hc_X11_rests (fe_X11_rests (pc := 21) rfl) rfl
  · rw [if_neg ck] at H; cases H
theorem hc_X11_nextRandom : ci_code (ci_Ms 166) = k_X11_nextRandom := rfl
theorem fe_X11_nextRandom {pc : Nat} {w : Option ci_I} (h : (k_X11_nextRandom)[pc]? = some w) : (k_X11_nextRandom)[pc]? = some w := h
def F_X11_nextRandom (a0 : Int32) (h : ci_H) : Option (Int32 × ci_H) := some ((a0 * 1103515245) + 12345, h)
set_option maxHeartbeats 4000000 in
set_option maxRecDepth 20000 in
theorem E_X11_nextRandom {xs : Nat → Int32} {N d : Nat} {nx : ci_N} {a0 : Int32} {h : ci_H} {r : Int32 × ci_H} (H : F_X11_nextRandom a0 h = some r) (hd : 0 ≤ d) : Ev xs N d 166 0 (ci_entry [.int a0] 1) [] h nx (oI r nx) := by
  unfold F_X11_nextRandom at H
  show Ev xs N d 166 0 [.int a0] [] h nx _
  refine ev_go hc_X11_nextRandom (k := 5) (pc' := 9) (L' := [.int a0]) (S' := [.int ((a0 * 1103515245) + 12345)]) rfl ?_
  obtain rfl := Option.some.inj H
  exact ev_8 hc_X11_nextRandom (fe_X11_nextRandom (pc := 9) rfl) rfl
theorem hc_X11_drawn : ci_code (ci_Ms 167) = k_X11_drawn := rfl
theorem fe_X11_drawn {pc : Nat} {w : Option ci_I} (h : (k_X11_drawn)[pc]? = some w) : (k_X11_drawn)[pc]? = some w := h
def F_X11_drawn (a0 : Int32) (a1 : Int32) (h : ci_H) : Option (Int32 × ci_H) := if 1 ≤ a1 then ((rmI (((a0 : Int32).toUInt32 >>> ((16 : Int32).toUInt32 &&& Int32.toUInt32 31)).toInt32) a1).bind fun v2 => some (v2, h)) else (some (0, h))
set_option maxHeartbeats 4000000 in
set_option maxRecDepth 20000 in
theorem E_X11_drawn {xs : Nat → Int32} {N d : Nat} {nx : ci_N} {a0 : Int32} {a1 : Int32} {h : ci_H} {r : Int32 × ci_H} (H : F_X11_drawn a0 a1 h = some r) (hd : 0 ≤ d) : Ev xs N d 167 0 (ci_entry [.int a0, .int a1] 2) [] h nx (oI r nx) := by
  unfold F_X11_drawn at H
  show Ev xs N d 167 0 [.int a0, .int a1] [] h nx _
  refine ev_go hc_X11_drawn (k := 2) (pc' := 2) (L' := [.int a0, .int a1]) (S' := [.int 1, .int a1]) rfl ?_
  by_cases c1 : 1 ≤ a1
  · rw [if_pos c1] at H
    refine ev_bt hc_X11_drawn (fe_X11_drawn (pc := 2) rfl) rfl c1 ?_
    refine ev_go hc_X11_drawn (k := 4) (pc' := 14) (L' := [.int a0, .int a1]) (S' := [.int a1, .int (((a0 : Int32).toUInt32 >>> ((16 : Int32).toUInt32 &&& Int32.toUInt32 31)).toInt32)]) rfl ?_
    obtain ⟨v2, ev2, H⟩ := Option.bind_eq_some_iff.mp H
    refine ev_1 hc_X11_drawn (fe_X11_drawn (pc := 14) rfl) (rmI_st ev2) ?_
    obtain rfl := Option.some.inj H
    exact ev_8 hc_X11_drawn (fe_X11_drawn (pc := 15) rfl) rfl
  · rw [if_neg c1] at H
    refine ev_bf hc_X11_drawn (fe_X11_drawn (pc := 2) rfl) rfl c1 ?_
    refine ev_go hc_X11_drawn (k := 2) (pc' := 15) (L' := [.int a0, .int a1]) (S' := [.int 0]) rfl ?_
    obtain rfl := Option.some.inj H
    exact ev_8 hc_X11_drawn (fe_X11_drawn (pc := 15) rfl) rfl
theorem hc_X11_years : ci_code (ci_Ms 139) = k_X11_years := rfl
theorem fe_X11_years {pc : Nat} {w : Option ci_I} (h : (k_X11_years)[pc]? = some w) : (k_X11_years)[pc]? = some w := h
def b_X11_years_124 (r_51 : Int32 → Int32 → Int32 → Int32 → ci_H → Option (Int32 × ci_H)) (l0 : Nat) (l2 : Int32) (l3 : Int32) (l4 : Int32) (l5 : Int32) (l6 : Int32)  (h : ci_H) : Option (Int32 × ci_H) := (gR h l0 11 0).bind fun v1 => (F_X10_passHour v1 h).bind fun q2 => r_51 l3 l4 (l5 ||| q2.1) (l6 + 1) q2.2
set_option maxHeartbeats 4000000 in
set_option maxRecDepth 20000 in
theorem eb_X11_years_124 {xs : Nat → Int32} {N d : Nat} {nx : ci_N} {r_51 : Int32 → Int32 → Int32 → Int32 → ci_H → Option (Int32 × ci_H)} {l0 : Nat} {l2 : Int32} {l3 : Int32} {l4 : Int32} {l5 : Int32} {l6 : Int32} (hd : 3 ≤ d) (h_51 : ∀ (l3 : Int32) (l4 : Int32) (l5 : Int32) (l6 : Int32) (h : ci_H) (r : Int32 × ci_H), r_51 l3 l4 l5 l6 h = some r → Ev xs N (d + 1) 139 51 [.ref l0, ci_junk, .int l2, .int l3, .int l4, .int l5, .int l6, ci_junk, ci_junk] [] h nx (oI r nx)) {h : ci_H} {r : Int32 × ci_H} (H : b_X11_years_124 r_51 l0 l2 l3 l4 l5 l6 h = some r) : Ev xs N (d + 1) 139 124 [.ref l0, ci_junk, .int l2, .int l3, .int l4, .int l5, .int l6, ci_junk, ci_junk] [] h nx (oI r nx) := by
  unfold b_X11_years_124 at H
  refine ev_go hc_X11_years (k := 2) (pc' := 127) (L' := [.ref l0, ci_junk, .int l2, .int l3, .int l4, .int l5, .int l6, ci_junk, ci_junk]) (S' := [.ref l0, .int l5]) rfl ?_
  obtain ⟨v1, ev1, H⟩ := Option.bind_eq_some_iff.mp H
  refine ev_4 hc_X11_years (fe_X11_years (pc := 127) rfl) (gR_gf ev1) ?_
  obtain ⟨q2, eq2, H⟩ := Option.bind_eq_some_iff.mp H
  refine ev_call (vs := [.ref v1]) (rest := [.int l5]) (q := q_X10_passHour) hc_X11_years (Or.inr rfl) (fe_X11_years (pc := 130) rfl) ms_92 rfl rfl (Nat.le_of_ble_eq_true rfl) (kO_recv (K_X10_passHour eq2)) (E_X10_passHour eq2 (by omega)) rfl ?_
  show Ev xs N (d + 1) 139 133 [.ref l0, ci_junk, .int l2, .int l3, .int l4, .int l5, .int l6, ci_junk, ci_junk] [.int q2.1, .int l5] q2.2 nx _
  refine ev_go hc_X11_years (k := 4) (pc' := 51) (L' := [.ref l0, ci_junk, .int l2, .int l3, .int l4, .int (l5 ||| q2.1), .int (l6 + 1), ci_junk, ci_junk]) (S' := []) rfl ?_
  exact Ev.weak (ci_le_c (Or.inr rfl) (ci_le_c (Or.inl rfl) (ci_le_c (Or.inr rfl) (ci_le_c (Or.inr rfl) (ci_le_c (Or.inr rfl) (ci_le_c (Or.inr rfl) (ci_le_c (Or.inr rfl) (ci_le_c (Or.inl rfl) (ci_le_c (Or.inl rfl) (ci_le_n)))))))))) (h_51 _ _ _ _ _ _ H)
def b_X11_years_51 (l0 : Nat) (l2 : Int32) : Nat → Int32 → Int32 → Int32 → Int32 → ci_H → Option (Int32 × ci_H)
  | 0, _, _, _, _, _ => none
  | n + 1, l3, l4, l5, l6, h => if l2 ≤ l6 then ((gR h l0 11 0).bind fun v2 => (F_X10_breakers v2 h).bind fun q3 => (F_J6_bitCount_0f7a4 q3.1 q3.2).bind fun q4 => (gR q4.2 l0 11 0).bind fun v5 => (gR q4.2 v5 10 0).bind fun v6 => (gR q4.2 l0 11 10).bind fun v7 => (F_X6_copy v6 v7 q4.2).bind fun h8 => (F_X11_tellTwo l0 ((l4 : Int32).toInt64) ((q4.1 : Int32).toInt64) h8).bind fun h9 => (F_J6_bitCount_0f7a4 l5 h9).bind fun q10 => some (q10.1, q10.2)) else ((F_X11_nextRandom l3 h).bind fun q11 => (gR q11.2 l0 11 0).bind fun v12 => (gI q11.2 v12 10 6).bind fun v13 => (F_X11_drawn q11.1 v13 q11.2).bind fun q14 => (F_X11_nextRandom q11.1 q14.2).bind fun q15 => (gR q15.2 l0 11 0).bind fun v16 => (gI q15.2 v16 10 5).bind fun v17 => (F_X11_drawn q15.1 v17 q15.2).bind fun q18 => (gR q18.2 l0 11 0).bind fun v19 => (gR q18.2 v19 10 0).bind fun v20 => (gR q18.2 v20 6 0).bind fun v21 => (rI q18.2 v21 q14.1).bind fun v22 => if v22 = ((-1)) then (b_X11_years_124 (fun x0 x1 x2 x3 x4 => b_X11_years_51 l0 l2 n x0 x1 x2 x3 x4) l0 l2 q15.1 l4 l5 l6 q18.2) else ((gR q18.2 l0 11 0).bind fun v24 => (F_X10_hand v24 q14.1 q18.1 q18.2).bind fun h25 => b_X11_years_124 (fun x0 x1 x2 x3 x4 => b_X11_years_51 l0 l2 n x0 x1 x2 x3 x4) l0 l2 q15.1 (l4 + 1) l5 l6 h25))
set_option maxHeartbeats 4000000 in
set_option maxRecDepth 20000 in
theorem eb_X11_years_51 {xs : Nat → Int32} {N d : Nat} {nx : ci_N} {l0 : Nat} {l2 : Int32} (hd : 3 ≤ d) : ∀ (n : Nat) (l3 : Int32) (l4 : Int32) (l5 : Int32) (l6 : Int32) (h : ci_H) (r : Int32 × ci_H), b_X11_years_51 l0 l2 n l3 l4 l5 l6 h = some r → Ev xs N (d + 1) 139 51 [.ref l0, ci_junk, .int l2, .int l3, .int l4, .int l5, .int l6, ci_junk, ci_junk] [] h nx (oI r nx) := by
  intro n
  induction n with
  | zero => intro l3 l4 l5 l6 h r H; unfold b_X11_years_51 at H; cases H
  | succ n ih =>
    intro l3 l4 l5 l6 h r H
    unfold b_X11_years_51 at H
    refine ev_go hc_X11_years (k := 2) (pc' := 54) (L' := [.ref l0, ci_junk, .int l2, .int l3, .int l4, .int l5, .int l6, ci_junk, ci_junk]) (S' := [.int l2, .int l6]) rfl ?_
    by_cases c1 : l2 ≤ l6
    · rw [if_pos c1] at H
      refine ev_bt hc_X11_years (fe_X11_years (pc := 54) rfl) rfl c1 ?_
      refine ev_go hc_X11_years (k := 1) (pc' := 143) (L' := [.ref l0, ci_junk, .int l2, .int l3, .int l4, .int l5, .int l6, ci_junk, ci_junk]) (S' := [.ref l0]) rfl ?_
      obtain ⟨v2, ev2, H⟩ := Option.bind_eq_some_iff.mp H
      refine ev_4 hc_X11_years (fe_X11_years (pc := 143) rfl) (gR_gf ev2) ?_
      obtain ⟨q3, eq3, H⟩ := Option.bind_eq_some_iff.mp H
      refine ev_call (vs := [.ref v2]) (rest := []) (q := q_X10_breakers) hc_X11_years (Or.inr rfl) (fe_X11_years (pc := 146) rfl) ms_84 rfl rfl (Nat.le_of_ble_eq_true rfl) (kO_recv (K_X10_breakers eq3)) (E_X10_breakers eq3 (by omega)) rfl ?_
      show Ev xs N (d + 1) 139 149 [.ref l0, ci_junk, .int l2, .int l3, .int l4, .int l5, .int l6, ci_junk, ci_junk] [.int q3.1] q3.2 nx _
      obtain ⟨q4, eq4, H⟩ := Option.bind_eq_some_iff.mp H
      refine ev_call (vs := [.int q3.1]) (rest := []) (q := q_J6_bitCount_0f7a4) hc_X11_years (Or.inl rfl) (fe_X11_years (pc := 149) rfl) ms_285 rfl rfl (Nat.le_of_ble_eq_true rfl) rfl (E_J6_bitCount_0f7a4 eq4 (by omega)) rfl ?_
      show Ev xs N (d + 1) 139 152 [.ref l0, ci_junk, .int l2, .int l3, .int l4, .int l5, .int l6, ci_junk, ci_junk] [.int q4.1] q4.2 nx _
      refine ev_go hc_X11_years (k := 2) (pc' := 155) (L' := [.ref l0, ci_junk, .int l2, .int l3, .int l4, .int l5, .int q4.1, ci_junk, ci_junk]) (S' := [.ref l0]) rfl ?_
      obtain ⟨v5, ev5, H⟩ := Option.bind_eq_some_iff.mp H
      refine ev_4 hc_X11_years (fe_X11_years (pc := 155) rfl) (gR_gf ev5) ?_
      obtain ⟨v6, ev6, H⟩ := Option.bind_eq_some_iff.mp H
      refine ev_4 hc_X11_years (fe_X11_years (pc := 158) rfl) (gR_gf ev6) ?_
      refine ev_go hc_X11_years (k := 1) (pc' := 162) (L' := [.ref l0, ci_junk, .int l2, .int l3, .int l4, .int l5, .int q4.1, ci_junk, ci_junk]) (S' := [.ref l0, .ref v6]) rfl ?_
      obtain ⟨v7, ev7, H⟩ := Option.bind_eq_some_iff.mp H
      refine ev_4 hc_X11_years (fe_X11_years (pc := 162) rfl) (gR_gf ev7) ?_
      obtain ⟨h8, eh8, H⟩ := Option.bind_eq_some_iff.mp H
      refine ev_call (vs := [.ref v6, .ref v7]) (rest := []) (q := q_X6_copy) hc_X11_years (Or.inr rfl) (fe_X11_years (pc := 165) rfl) ms_38 rfl rfl (Nat.le_of_ble_eq_true rfl) (kO_recv (K_X6_copy eh8)) (E_X6_copy eh8 (by omega)) rfl ?_
      show Ev xs N (d + 1) 139 168 [.ref l0, ci_junk, .int l2, .int l3, .int l4, .int l5, .int q4.1, ci_junk, ci_junk] [] h8 nx _
      refine ev_go hc_X11_years (k := 5) (pc' := 175) (L' := [.ref l0, ci_junk, .int l2, .int l3, .int l4, .int l5, .int q4.1, ci_junk, ci_junk]) (S' := [.long ((q4.1 : Int32).toInt64), .long ((l4 : Int32).toInt64), .ref l0]) rfl ?_
      obtain ⟨h9, eh9, H⟩ := Option.bind_eq_some_iff.mp H
      refine ev_call (vs := [.ref l0, .long ((l4 : Int32).toInt64), .long ((q4.1 : Int32).toInt64)]) (rest := []) (q := q_X11_tellTwo) hc_X11_years (Or.inr rfl) (fe_X11_years (pc := 175) rfl) ms_148 rfl rfl (Nat.le_of_ble_eq_true rfl) (kO_recv (K_X11_tellTwo eh9)) (E_X11_tellTwo eh9 (by omega)) rfl ?_
      show Ev xs N (d + 1) 139 178 [.ref l0, ci_junk, .int l2, .int l3, .int l4, .int l5, .int q4.1, ci_junk, ci_junk] [] h9 nx _
      refine ev_go hc_X11_years (k := 1) (pc' := 180) (L' := [.ref l0, ci_junk, .int l2, .int l3, .int l4, .int l5, .int q4.1, ci_junk, ci_junk]) (S' := [.int l5]) rfl ?_
      obtain ⟨q10, eq10, H⟩ := Option.bind_eq_some_iff.mp H
      refine ev_call (vs := [.int l5]) (rest := []) (q := q_J6_bitCount_0f7a4) hc_X11_years (Or.inl rfl) (fe_X11_years (pc := 180) rfl) ms_285 rfl rfl (Nat.le_of_ble_eq_true rfl) rfl (E_J6_bitCount_0f7a4 eq10 (by omega)) rfl ?_
      show Ev xs N (d + 1) 139 183 [.ref l0, ci_junk, .int l2, .int l3, .int l4, .int l5, .int q4.1, ci_junk, ci_junk] [.int q10.1] q10.2 nx _
      obtain rfl := Option.some.inj H
      exact ev_8 hc_X11_years (fe_X11_years (pc := 183) rfl) rfl
    · rw [if_neg c1] at H
      refine ev_bf hc_X11_years (fe_X11_years (pc := 54) rfl) rfl c1 ?_
      refine ev_go hc_X11_years (k := 1) (pc' := 58) (L' := [.ref l0, ci_junk, .int l2, .int l3, .int l4, .int l5, .int l6, ci_junk, ci_junk]) (S' := [.int l3]) rfl ?_
      obtain ⟨q11, eq11, H⟩ := Option.bind_eq_some_iff.mp H
      refine ev_call (vs := [.int l3]) (rest := []) (q := q_X11_nextRandom) hc_X11_years (Or.inl rfl) (fe_X11_years (pc := 58) rfl) ms_166 rfl rfl (Nat.le_of_ble_eq_true rfl) rfl (E_X11_nextRandom eq11 (by omega)) rfl ?_
      show Ev xs N (d + 1) 139 61 [.ref l0, ci_junk, .int l2, .int l3, .int l4, .int l5, .int l6, ci_junk, ci_junk] [.int q11.1] q11.2 nx _
      refine ev_go hc_X11_years (k := 3) (pc' := 64) (L' := [.ref l0, ci_junk, .int l2, .int q11.1, .int l4, .int l5, .int l6, ci_junk, ci_junk]) (S' := [.ref l0, .int q11.1]) rfl ?_
      obtain ⟨v12, ev12, H⟩ := Option.bind_eq_some_iff.mp H
      refine ev_4 hc_X11_years (fe_X11_years (pc := 64) rfl) (gR_gf ev12) ?_
      obtain ⟨v13, ev13, H⟩ := Option.bind_eq_some_iff.mp H
      refine ev_4 hc_X11_years (fe_X11_years (pc := 67) rfl) (gI_gf ev13) ?_
      obtain ⟨q14, eq14, H⟩ := Option.bind_eq_some_iff.mp H
      refine ev_call (vs := [.int q11.1, .int v13]) (rest := []) (q := q_X11_drawn) hc_X11_years (Or.inl rfl) (fe_X11_years (pc := 70) rfl) ms_167 rfl rfl (Nat.le_of_ble_eq_true rfl) rfl (E_X11_drawn eq14 (by omega)) rfl ?_
      show Ev xs N (d + 1) 139 73 [.ref l0, ci_junk, .int l2, .int q11.1, .int l4, .int l5, .int l6, ci_junk, ci_junk] [.int q14.1] q14.2 nx _
      refine ev_go hc_X11_years (k := 2) (pc' := 76) (L' := [.ref l0, ci_junk, .int l2, .int q11.1, .int l4, .int l5, .int l6, .int q14.1, ci_junk]) (S' := [.int q11.1]) rfl ?_
      obtain ⟨q15, eq15, H⟩ := Option.bind_eq_some_iff.mp H
      refine ev_call (vs := [.int q11.1]) (rest := []) (q := q_X11_nextRandom) hc_X11_years (Or.inl rfl) (fe_X11_years (pc := 76) rfl) ms_166 rfl rfl (Nat.le_of_ble_eq_true rfl) rfl (E_X11_nextRandom eq15 (by omega)) rfl ?_
      show Ev xs N (d + 1) 139 79 [.ref l0, ci_junk, .int l2, .int q11.1, .int l4, .int l5, .int l6, .int q14.1, ci_junk] [.int q15.1] q15.2 nx _
      refine ev_go hc_X11_years (k := 3) (pc' := 82) (L' := [.ref l0, ci_junk, .int l2, .int q15.1, .int l4, .int l5, .int l6, .int q14.1, ci_junk]) (S' := [.ref l0, .int q15.1]) rfl ?_
      obtain ⟨v16, ev16, H⟩ := Option.bind_eq_some_iff.mp H
      refine ev_4 hc_X11_years (fe_X11_years (pc := 82) rfl) (gR_gf ev16) ?_
      obtain ⟨v17, ev17, H⟩ := Option.bind_eq_some_iff.mp H
      refine ev_4 hc_X11_years (fe_X11_years (pc := 85) rfl) (gI_gf ev17) ?_
      obtain ⟨q18, eq18, H⟩ := Option.bind_eq_some_iff.mp H
      refine ev_call (vs := [.int q15.1, .int v17]) (rest := []) (q := q_X11_drawn) hc_X11_years (Or.inl rfl) (fe_X11_years (pc := 88) rfl) ms_167 rfl rfl (Nat.le_of_ble_eq_true rfl) rfl (E_X11_drawn eq18 (by omega)) rfl ?_
      show Ev xs N (d + 1) 139 91 [.ref l0, ci_junk, .int l2, .int q15.1, .int l4, .int l5, .int l6, .int q14.1, ci_junk] [.int q18.1] q18.2 nx _
      refine ev_go hc_X11_years (k := 2) (pc' := 94) (L' := [.ref l0, ci_junk, .int l2, .int q15.1, .int l4, .int l5, .int l6, .int q14.1, .int q18.1]) (S' := [.ref l0]) rfl ?_
      obtain ⟨v19, ev19, H⟩ := Option.bind_eq_some_iff.mp H
      refine ev_4 hc_X11_years (fe_X11_years (pc := 94) rfl) (gR_gf ev19) ?_
      obtain ⟨v20, ev20, H⟩ := Option.bind_eq_some_iff.mp H
      refine ev_4 hc_X11_years (fe_X11_years (pc := 97) rfl) (gR_gf ev20) ?_
      obtain ⟨v21, ev21, H⟩ := Option.bind_eq_some_iff.mp H
      refine ev_4 hc_X11_years (fe_X11_years (pc := 100) rfl) (gR_gf ev21) ?_
      refine ev_go hc_X11_years (k := 1) (pc' := 105) (L' := [.ref l0, ci_junk, .int l2, .int q15.1, .int l4, .int l5, .int l6, .int q14.1, .int q18.1]) (S' := [.int q14.1, .ref v21]) rfl ?_
      obtain ⟨v22, ev22, H⟩ := Option.bind_eq_some_iff.mp H
      refine ev_4 hc_X11_years (fe_X11_years (pc := 105) rfl) (rI_al ev22) ?_
      refine ev_go hc_X11_years (k := 1) (pc' := 107) (L' := [.ref l0, ci_junk, .int l2, .int q15.1, .int l4, .int l5, .int l6, .int q14.1, .int q18.1]) (S' := [.int ((-1)), .int v22]) rfl ?_
      by_cases c23 : v22 = ((-1))
      · rw [if_pos c23] at H
        refine ev_bt hc_X11_years (fe_X11_years (pc := 107) rfl) rfl c23 ?_
        exact Ev.weak (ci_le_c (Or.inr rfl) (ci_le_c (Or.inl rfl) (ci_le_c (Or.inr rfl) (ci_le_c (Or.inr rfl) (ci_le_c (Or.inr rfl) (ci_le_c (Or.inr rfl) (ci_le_c (Or.inr rfl) (ci_le_c (Or.inl rfl) (ci_le_c (Or.inl rfl) (ci_le_n)))))))))) (eb_X11_years_124 hd ih H)
      · rw [if_neg c23] at H
        refine ev_bf hc_X11_years (fe_X11_years (pc := 107) rfl) rfl c23 ?_
        refine ev_go hc_X11_years (k := 1) (pc' := 111) (L' := [.ref l0, ci_junk, .int l2, .int q15.1, .int l4, .int l5, .int l6, .int q14.1, .int q18.1]) (S' := [.ref l0]) rfl ?_
        obtain ⟨v24, ev24, H⟩ := Option.bind_eq_some_iff.mp H
        refine ev_4 hc_X11_years (fe_X11_years (pc := 111) rfl) (gR_gf ev24) ?_
        refine ev_go hc_X11_years (k := 2) (pc' := 118) (L' := [.ref l0, ci_junk, .int l2, .int q15.1, .int l4, .int l5, .int l6, .int q14.1, .int q18.1]) (S' := [.int q18.1, .int q14.1, .ref v24]) rfl ?_
        obtain ⟨h25, eh25, H⟩ := Option.bind_eq_some_iff.mp H
        refine ev_call (vs := [.ref v24, .int q14.1, .int q18.1]) (rest := []) (q := q_X10_hand) hc_X11_years (Or.inr rfl) (fe_X11_years (pc := 118) rfl) ms_85 rfl rfl (Nat.le_of_ble_eq_true rfl) (kO_recv (K_X10_hand eh25)) (E_X10_hand eh25 (by omega)) rfl ?_
        show Ev xs N (d + 1) 139 121 [.ref l0, ci_junk, .int l2, .int q15.1, .int l4, .int l5, .int l6, .int q14.1, .int q18.1] [] h25 nx _
        refine ev_go hc_X11_years (k := 1) (pc' := 124) (L' := [.ref l0, ci_junk, .int l2, .int q15.1, .int (l4 + 1), .int l5, .int l6, .int q14.1, .int q18.1]) (S' := []) rfl ?_
        exact Ev.weak (ci_le_c (Or.inr rfl) (ci_le_c (Or.inl rfl) (ci_le_c (Or.inr rfl) (ci_le_c (Or.inr rfl) (ci_le_c (Or.inr rfl) (ci_le_c (Or.inr rfl) (ci_le_c (Or.inr rfl) (ci_le_c (Or.inl rfl) (ci_le_c (Or.inl rfl) (ci_le_n)))))))))) (eb_X11_years_124 hd ih H)
def F_X11_years (a0 : Nat) (a1 : Int32) (a2 : Int32) (h : ci_H) : Option (Int32 × ci_H) := if kO h a0 = some 11 then ((gR h a0 11 0).bind fun v1 => (gI h v1 10 6).bind fun v2 => if v2 = 0 then (some ((-2), h)) else (if a2 < 1 then (some ((-1), h)) else (if a2 ≤ 60 then ((gR h a0 11 10).bind fun v6 => (gR h a0 11 0).bind fun v7 => (gR h v7 10 0).bind fun v8 => (F_X6_copy v6 v8 h).bind fun h9 => b_X11_years_51 a0 a2 bigN a1 0 0 0 h9) else (some ((-1), h))))) else none
theorem K_X11_years {a0 : Nat} {a1 : Int32} {a2 : Int32} {h : ci_H} {r : Int32 × ci_H} (H : F_X11_years a0 a1 a2 h = some r) : kO h a0 = some 11 := by
  unfold F_X11_years at H
  by_cases c : kO h a0 = some 11
  · exact c
  · rw [if_neg c] at H; cases H
set_option maxHeartbeats 4000000 in
set_option maxRecDepth 20000 in
theorem E_X11_years {xs : Nat → Int32} {N d : Nat} {nx : ci_N} {a0 : Nat} {a1 : Int32} {a2 : Int32} {h : ci_H} {r : Int32 × ci_H} (H : F_X11_years a0 a1 a2 h = some r) (hd : 4 ≤ d) : Ev xs N d 139 0 (ci_entry [.ref a0, .int a1, .int a2] 9) [] h nx (oI r nx) := by
  obtain ⟨d, rfl⟩ : ∃ d2, d = d2 + 1 := ⟨d - 1, by omega⟩
  have hd : 3 ≤ d := by omega
  unfold F_X11_years at H
  by_cases ck : kO h a0 = some 11
  · rw [if_pos ck] at H
    show Ev xs N (d + 1) 139 0 [.ref a0, .int a1, .int a2, ci_junk, ci_junk, ci_junk, ci_junk, ci_junk, ci_junk] [] h nx _
    refine ev_go hc_X11_years (k := 1) (pc' := 1) (L' := [.ref a0, .int a1, .int a2, ci_junk, ci_junk, ci_junk, ci_junk, ci_junk, ci_junk]) (S' := [.ref a0]) rfl ?_
    obtain ⟨v1, ev1, H⟩ := Option.bind_eq_some_iff.mp H
    refine ev_4 hc_X11_years (fe_X11_years (pc := 1) rfl) (gR_gf ev1) ?_
    obtain ⟨v2, ev2, H⟩ := Option.bind_eq_some_iff.mp H
    refine ev_4 hc_X11_years (fe_X11_years (pc := 4) rfl) (gI_gf ev2) ?_
    by_cases c3 : v2 = 0
    · rw [if_pos c3] at H
      refine ev_bt hc_X11_years (fe_X11_years (pc := 7) rfl) rfl c3 ?_
      refine ev_go hc_X11_years (k := 1) (pc' := 12) (L' := [.ref a0, .int a1, .int a2, ci_junk, ci_junk, ci_junk, ci_junk, ci_junk, ci_junk]) (S' := [.int ((-2))]) rfl ?_
      obtain rfl := Option.some.inj H
      exact ev_8 hc_X11_years (fe_X11_years (pc := 12) rfl) rfl
    · rw [if_neg c3] at H
      refine ev_bf hc_X11_years (fe_X11_years (pc := 7) rfl) rfl c3 ?_
      refine ev_go hc_X11_years (k := 2) (pc' := 15) (L' := [.ref a0, .int a1, .int a2, ci_junk, ci_junk, ci_junk, ci_junk, ci_junk, ci_junk]) (S' := [.int 1, .int a2]) rfl ?_
      by_cases c4 : a2 < 1
      · rw [if_pos c4] at H
        refine ev_bt hc_X11_years (fe_X11_years (pc := 15) rfl) rfl c4 ?_
        refine ev_go hc_X11_years (k := 1) (pc' := 25) (L' := [.ref a0, .int a1, .int a2, ci_junk, ci_junk, ci_junk, ci_junk, ci_junk, ci_junk]) (S' := [.int ((-1))]) rfl ?_
        obtain rfl := Option.some.inj H
        exact ev_8 hc_X11_years (fe_X11_years (pc := 25) rfl) rfl
      · rw [if_neg c4] at H
        refine ev_bf hc_X11_years (fe_X11_years (pc := 15) rfl) rfl c4 ?_
        refine ev_go hc_X11_years (k := 2) (pc' := 21) (L' := [.ref a0, .int a1, .int a2, ci_junk, ci_junk, ci_junk, ci_junk, ci_junk, ci_junk]) (S' := [.int 60, .int a2]) rfl ?_
        by_cases c5 : a2 ≤ 60
        · rw [if_pos c5] at H
          refine ev_bt hc_X11_years (fe_X11_years (pc := 21) rfl) rfl c5 ?_
          refine ev_go hc_X11_years (k := 1) (pc' := 27) (L' := [.ref a0, .int a1, .int a2, ci_junk, ci_junk, ci_junk, ci_junk, ci_junk, ci_junk]) (S' := [.ref a0]) rfl ?_
          obtain ⟨v6, ev6, H⟩ := Option.bind_eq_some_iff.mp H
          refine ev_4 hc_X11_years (fe_X11_years (pc := 27) rfl) (gR_gf ev6) ?_
          refine ev_go hc_X11_years (k := 1) (pc' := 31) (L' := [.ref a0, .int a1, .int a2, ci_junk, ci_junk, ci_junk, ci_junk, ci_junk, ci_junk]) (S' := [.ref a0, .ref v6]) rfl ?_
          obtain ⟨v7, ev7, H⟩ := Option.bind_eq_some_iff.mp H
          refine ev_4 hc_X11_years (fe_X11_years (pc := 31) rfl) (gR_gf ev7) ?_
          obtain ⟨v8, ev8, H⟩ := Option.bind_eq_some_iff.mp H
          refine ev_4 hc_X11_years (fe_X11_years (pc := 34) rfl) (gR_gf ev8) ?_
          obtain ⟨h9, eh9, H⟩ := Option.bind_eq_some_iff.mp H
          refine ev_call (vs := [.ref v6, .ref v8]) (rest := []) (q := q_X6_copy) hc_X11_years (Or.inr rfl) (fe_X11_years (pc := 37) rfl) ms_38 rfl rfl (Nat.le_of_ble_eq_true rfl) (kO_recv (K_X6_copy eh9)) (E_X6_copy eh9 (by omega)) rfl ?_
          show Ev xs N (d + 1) 139 40 [.ref a0, .int a1, .int a2, ci_junk, ci_junk, ci_junk, ci_junk, ci_junk, ci_junk] [] h9 nx _
          refine ev_go hc_X11_years (k := 8) (pc' := 51) (L' := [.ref a0, .int a1, .int a2, .int a1, .int 0, .int 0, .int 0, ci_junk, ci_junk]) (S' := []) rfl ?_
          exact Ev.weak (ci_le_c (Or.inr rfl) (ci_le_c (Or.inl rfl) (ci_le_c (Or.inr rfl) (ci_le_c (Or.inr rfl) (ci_le_c (Or.inr rfl) (ci_le_c (Or.inr rfl) (ci_le_c (Or.inr rfl) (ci_le_c (Or.inl rfl) (ci_le_c (Or.inl rfl) (ci_le_n)))))))))) (eb_X11_years_51 hd bigN _ _ _ _ _ _ H)
        · rw [if_neg c5] at H
          refine ev_bf hc_X11_years (fe_X11_years (pc := 21) rfl) rfl c5 ?_
          refine ev_go hc_X11_years (k := 1) (pc' := 25) (L' := [.ref a0, .int a1, .int a2, ci_junk, ci_junk, ci_junk, ci_junk, ci_junk, ci_junk]) (S' := [.int ((-1))]) rfl ?_
          obtain rfl := Option.some.inj H
          exact ev_8 hc_X11_years (fe_X11_years (pc := 25) rfl) rfl
  · rw [if_neg ck] at H; cases H
theorem hc_X11_keep : ci_code (ci_Ms 140) = k_X11_keep := rfl
theorem fe_X11_keep {pc : Nat} {w : Option ci_I} (h : (k_X11_keep)[pc]? = some w) : (k_X11_keep)[pc]? = some w := h
def F_X11_keep (a0 : Nat) (a1 : Int32) (h : ci_H) : Option (Int32 × ci_H) := if kO h a0 = some 11 then (if a1 < 0 then (some (0, h)) else (if a1 < 2 then ((gR h a0 11 8).bind fun v3 => (rR h v3 a1).bind fun v4 => (gR h a0 11 0).bind fun v5 => (gR h v5 10 0).bind fun v6 => (F_X6_copy v4 v6 h).bind fun h7 => (gR h7 a0 11 9).bind fun v8 => (wB h7 v8 a1 1).bind fun h9 => some (1, h9)) else (some (0, h)))) else none
theorem K_X11_keep {a0 : Nat} {a1 : Int32} {h : ci_H} {r : Int32 × ci_H} (H : F_X11_keep a0 a1 h = some r) : kO h a0 = some 11 := by
  unfold F_X11_keep at H
  by_cases c : kO h a0 = some 11
  · exact c
  · rw [if_neg c] at H; cases H
set_option maxHeartbeats 4000000 in
set_option maxRecDepth 20000 in
theorem E_X11_keep {xs : Nat → Int32} {N d : Nat} {nx : ci_N} {a0 : Nat} {a1 : Int32} {h : ci_H} {r : Int32 × ci_H} (H : F_X11_keep a0 a1 h = some r) (hd : 1 ≤ d) : Ev xs N d 140 0 (ci_entry [.ref a0, .int a1] 2) [] h nx (oI r nx) := by
  obtain ⟨d, rfl⟩ : ∃ d2, d = d2 + 1 := ⟨d - 1, by omega⟩
  have hd : 0 ≤ d := by omega
  unfold F_X11_keep at H
  by_cases ck : kO h a0 = some 11
  · rw [if_pos ck] at H
    show Ev xs N (d + 1) 140 0 [.ref a0, .int a1] [] h nx _
    refine ev_go hc_X11_keep (k := 1) (pc' := 1) (L' := [.ref a0, .int a1]) (S' := [.int a1]) rfl ?_
    by_cases c1 : a1 < 0
    · rw [if_pos c1] at H
      refine ev_bt hc_X11_keep (fe_X11_keep (pc := 1) rfl) rfl c1 ?_
      refine ev_go hc_X11_keep (k := 1) (pc' := 10) (L' := [.ref a0, .int a1]) (S' := [.int 0]) rfl ?_
      obtain rfl := Option.some.inj H
      exact ev_8z hc_X11_keep (fe_X11_keep (pc := 10) rfl) rfl (Or.inl rfl)
    · rw [if_neg c1] at H
      refine ev_bf hc_X11_keep (fe_X11_keep (pc := 1) rfl) rfl c1 ?_
      refine ev_go hc_X11_keep (k := 2) (pc' := 6) (L' := [.ref a0, .int a1]) (S' := [.int 2, .int a1]) rfl ?_
      by_cases c2 : a1 < 2
      · rw [if_pos c2] at H
        refine ev_bt hc_X11_keep (fe_X11_keep (pc := 6) rfl) rfl c2 ?_
        refine ev_go hc_X11_keep (k := 1) (pc' := 12) (L' := [.ref a0, .int a1]) (S' := [.ref a0]) rfl ?_
        obtain ⟨v3, ev3, H⟩ := Option.bind_eq_some_iff.mp H
        refine ev_4 hc_X11_keep (fe_X11_keep (pc := 12) rfl) (gR_gf ev3) ?_
        refine ev_go hc_X11_keep (k := 1) (pc' := 16) (L' := [.ref a0, .int a1]) (S' := [.int a1, .ref v3]) rfl ?_
        obtain ⟨v4, ev4, H⟩ := Option.bind_eq_some_iff.mp H
        refine ev_4 hc_X11_keep (fe_X11_keep (pc := 16) rfl) (rR_al ev4) ?_
        refine ev_go hc_X11_keep (k := 1) (pc' := 18) (L' := [.ref a0, .int a1]) (S' := [.ref a0, .ref v4]) rfl ?_
        obtain ⟨v5, ev5, H⟩ := Option.bind_eq_some_iff.mp H
        refine ev_4 hc_X11_keep (fe_X11_keep (pc := 18) rfl) (gR_gf ev5) ?_
        obtain ⟨v6, ev6, H⟩ := Option.bind_eq_some_iff.mp H
        refine ev_4 hc_X11_keep (fe_X11_keep (pc := 21) rfl) (gR_gf ev6) ?_
        obtain ⟨h7, eh7, H⟩ := Option.bind_eq_some_iff.mp H
        refine ev_call (vs := [.ref v4, .ref v6]) (rest := []) (q := q_X6_copy) hc_X11_keep (Or.inr rfl) (fe_X11_keep (pc := 24) rfl) ms_38 rfl rfl (Nat.le_of_ble_eq_true rfl) (kO_recv (K_X6_copy eh7)) (E_X6_copy eh7 (by omega)) rfl ?_
        show Ev xs N (d + 1) 140 27 [.ref a0, .int a1] [] h7 nx _
        refine ev_go hc_X11_keep (k := 1) (pc' := 28) (L' := [.ref a0, .int a1]) (S' := [.ref a0]) rfl ?_
        obtain ⟨v8, ev8, H⟩ := Option.bind_eq_some_iff.mp H
        refine ev_4 hc_X11_keep (fe_X11_keep (pc := 28) rfl) (gR_gf ev8) ?_
        refine ev_go hc_X11_keep (k := 2) (pc' := 33) (L' := [.ref a0, .int a1]) (S' := [.int 1, .int a1, .ref v8]) rfl ?_
        obtain ⟨h9, eh9, H⟩ := Option.bind_eq_some_iff.mp H
        refine ev_5 hc_X11_keep (fe_X11_keep (pc := 33) rfl) (wB_as eh9) ?_
        refine ev_go hc_X11_keep (k := 1) (pc' := 35) (L' := [.ref a0, .int a1]) (S' := [.int 1]) rfl ?_
        obtain rfl := Option.some.inj H
        exact ev_8z hc_X11_keep (fe_X11_keep (pc := 35) rfl) rfl (Or.inr rfl)
      · rw [if_neg c2] at H
        refine ev_bf hc_X11_keep (fe_X11_keep (pc := 6) rfl) rfl c2 ?_
        refine ev_go hc_X11_keep (k := 1) (pc' := 10) (L' := [.ref a0, .int a1]) (S' := [.int 0]) rfl ?_
        obtain rfl := Option.some.inj H
        exact ev_8z hc_X11_keep (fe_X11_keep (pc := 10) rfl) rfl (Or.inl rfl)
  · rw [if_neg ck] at H; cases H
theorem hc_X11_again : ci_code (ci_Ms 141) = k_X11_again := rfl
theorem fe_X11_again {pc : Nat} {w : Option ci_I} (h : (k_X11_again)[pc]? = some w) : (k_X11_again)[pc]? = some w := h
def F_X11_again (a0 : Nat) (a1 : Int32) (h : ci_H) : Option (Int32 × ci_H) := if kO h a0 = some 11 then (if a1 < 0 then (some (0, h)) else (if 2 ≤ a1 then (some (0, h)) else ((gR h a0 11 9).bind fun v3 => (rB h v3 a1).bind fun v4 => if v4 = 0 then (some (0, h)) else ((gR h a0 11 0).bind fun v6 => (gR h v6 10 0).bind fun v7 => (gR h a0 11 8).bind fun v8 => (rR h v8 a1).bind fun v9 => (F_X6_copy v7 v9 h).bind fun h10 => (gR h10 a0 11 0).bind fun v11 => (F_X10_sortThings v11 h10).bind fun h12 => (gR h12 a0 11 5).bind fun v13 => (pF h12 v13 2 2 (.int 0)).bind fun h14 => some (1, h14))))) else none
theorem K_X11_again {a0 : Nat} {a1 : Int32} {h : ci_H} {r : Int32 × ci_H} (H : F_X11_again a0 a1 h = some r) : kO h a0 = some 11 := by
  unfold F_X11_again at H
  by_cases c : kO h a0 = some 11
  · exact c
  · rw [if_neg c] at H; cases H
set_option maxHeartbeats 4000000 in
set_option maxRecDepth 20000 in
theorem E_X11_again {xs : Nat → Int32} {N d : Nat} {nx : ci_N} {a0 : Nat} {a1 : Int32} {h : ci_H} {r : Int32 × ci_H} (H : F_X11_again a0 a1 h = some r) (hd : 1 ≤ d) : Ev xs N d 141 0 (ci_entry [.ref a0, .int a1] 2) [] h nx (oI r nx) := by
  obtain ⟨d, rfl⟩ : ∃ d2, d = d2 + 1 := ⟨d - 1, by omega⟩
  have hd : 0 ≤ d := by omega
  unfold F_X11_again at H
  by_cases ck : kO h a0 = some 11
  · rw [if_pos ck] at H
    show Ev xs N (d + 1) 141 0 [.ref a0, .int a1] [] h nx _
    refine ev_go hc_X11_again (k := 1) (pc' := 1) (L' := [.ref a0, .int a1]) (S' := [.int a1]) rfl ?_
    by_cases c1 : a1 < 0
    · rw [if_pos c1] at H
      refine ev_bt hc_X11_again (fe_X11_again (pc := 1) rfl) rfl c1 ?_
      refine ev_go hc_X11_again (k := 1) (pc' := 19) (L' := [.ref a0, .int a1]) (S' := [.int 0]) rfl ?_
      obtain rfl := Option.some.inj H
      exact ev_8z hc_X11_again (fe_X11_again (pc := 19) rfl) rfl (Or.inl rfl)
    · rw [if_neg c1] at H
      refine ev_bf hc_X11_again (fe_X11_again (pc := 1) rfl) rfl c1 ?_
      refine ev_go hc_X11_again (k := 2) (pc' := 6) (L' := [.ref a0, .int a1]) (S' := [.int 2, .int a1]) rfl ?_
      by_cases c2 : 2 ≤ a1
      · rw [if_pos c2] at H
        refine ev_bt hc_X11_again (fe_X11_again (pc := 6) rfl) rfl c2 ?_
        refine ev_go hc_X11_again (k := 1) (pc' := 19) (L' := [.ref a0, .int a1]) (S' := [.int 0]) rfl ?_
        obtain rfl := Option.some.inj H
        exact ev_8z hc_X11_again (fe_X11_again (pc := 19) rfl) rfl (Or.inl rfl)
      · rw [if_neg c2] at H
        refine ev_bf hc_X11_again (fe_X11_again (pc := 6) rfl) rfl c2 ?_
        refine ev_go hc_X11_again (k := 1) (pc' := 10) (L' := [.ref a0, .int a1]) (S' := [.ref a0]) rfl ?_
        obtain ⟨v3, ev3, H⟩ := Option.bind_eq_some_iff.mp H
        refine ev_4 hc_X11_again (fe_X11_again (pc := 10) rfl) (gR_gf ev3) ?_
        refine ev_go hc_X11_again (k := 1) (pc' := 14) (L' := [.ref a0, .int a1]) (S' := [.int a1, .ref v3]) rfl ?_
        obtain ⟨v4, ev4, H⟩ := Option.bind_eq_some_iff.mp H
        refine ev_4 hc_X11_again (fe_X11_again (pc := 14) rfl) (rB_al ev4) ?_
        by_cases c5 : v4 = 0
        · rw [if_pos c5] at H
          refine ev_bt hc_X11_again (fe_X11_again (pc := 15) rfl) rfl c5 ?_
          refine ev_go hc_X11_again (k := 1) (pc' := 19) (L' := [.ref a0, .int a1]) (S' := [.int 0]) rfl ?_
          obtain rfl := Option.some.inj H
          exact ev_8z hc_X11_again (fe_X11_again (pc := 19) rfl) rfl (Or.inl rfl)
        · rw [if_neg c5] at H
          refine ev_bf hc_X11_again (fe_X11_again (pc := 15) rfl) rfl c5 ?_
          refine ev_go hc_X11_again (k := 1) (pc' := 21) (L' := [.ref a0, .int a1]) (S' := [.ref a0]) rfl ?_
          obtain ⟨v6, ev6, H⟩ := Option.bind_eq_some_iff.mp H
          refine ev_4 hc_X11_again (fe_X11_again (pc := 21) rfl) (gR_gf ev6) ?_
          obtain ⟨v7, ev7, H⟩ := Option.bind_eq_some_iff.mp H
          refine ev_4 hc_X11_again (fe_X11_again (pc := 24) rfl) (gR_gf ev7) ?_
          refine ev_go hc_X11_again (k := 1) (pc' := 28) (L' := [.ref a0, .int a1]) (S' := [.ref a0, .ref v7]) rfl ?_
          obtain ⟨v8, ev8, H⟩ := Option.bind_eq_some_iff.mp H
          refine ev_4 hc_X11_again (fe_X11_again (pc := 28) rfl) (gR_gf ev8) ?_
          refine ev_go hc_X11_again (k := 1) (pc' := 32) (L' := [.ref a0, .int a1]) (S' := [.int a1, .ref v8, .ref v7]) rfl ?_
          obtain ⟨v9, ev9, H⟩ := Option.bind_eq_some_iff.mp H
          refine ev_4 hc_X11_again (fe_X11_again (pc := 32) rfl) (rR_al ev9) ?_
          obtain ⟨h10, eh10, H⟩ := Option.bind_eq_some_iff.mp H
          refine ev_call (vs := [.ref v7, .ref v9]) (rest := []) (q := q_X6_copy) hc_X11_again (Or.inr rfl) (fe_X11_again (pc := 33) rfl) ms_38 rfl rfl (Nat.le_of_ble_eq_true rfl) (kO_recv (K_X6_copy eh10)) (E_X6_copy eh10 (by omega)) rfl ?_
          show Ev xs N (d + 1) 141 36 [.ref a0, .int a1] [] h10 nx _
          refine ev_go hc_X11_again (k := 1) (pc' := 37) (L' := [.ref a0, .int a1]) (S' := [.ref a0]) rfl ?_
          obtain ⟨v11, ev11, H⟩ := Option.bind_eq_some_iff.mp H
          refine ev_4 hc_X11_again (fe_X11_again (pc := 37) rfl) (gR_gf ev11) ?_
          obtain ⟨h12, eh12, H⟩ := Option.bind_eq_some_iff.mp H
          refine ev_call (vs := [.ref v11]) (rest := []) (q := q_X10_sortThings) hc_X11_again (Or.inr rfl) (fe_X11_again (pc := 40) rfl) ms_71 rfl rfl (Nat.le_of_ble_eq_true rfl) (kO_recv (K_X10_sortThings eh12)) (E_X10_sortThings eh12 (by omega)) rfl ?_
          show Ev xs N (d + 1) 141 43 [.ref a0, .int a1] [] h12 nx _
          refine ev_go hc_X11_again (k := 1) (pc' := 44) (L' := [.ref a0, .int a1]) (S' := [.ref a0]) rfl ?_
          obtain ⟨v13, ev13, H⟩ := Option.bind_eq_some_iff.mp H
          refine ev_4 hc_X11_again (fe_X11_again (pc := 44) rfl) (gR_gf ev13) ?_
          refine ev_go hc_X11_again (k := 1) (pc' := 48) (L' := [.ref a0, .int a1]) (S' := [.int 0, .ref v13]) rfl ?_
          obtain ⟨h14, eh14, H⟩ := Option.bind_eq_some_iff.mp H
          refine ev_5 hc_X11_again (fe_X11_again (pc := 48) rfl) (pF_pf eh14) ?_
          refine ev_go hc_X11_again (k := 1) (pc' := 52) (L' := [.ref a0, .int a1]) (S' := [.int 1]) rfl ?_
          obtain rfl := Option.some.inj H
          exact ev_8z hc_X11_again (fe_X11_again (pc := 52) rfl) rfl (Or.inr rfl)
  · rw [if_neg ck] at H; cases H
theorem hc_X11_count : ci_code (ci_Ms 142) = k_X11_count := rfl
theorem fe_X11_count {pc : Nat} {w : Option ci_I} (h : (k_X11_count)[pc]? = some w) : (k_X11_count)[pc]? = some w := h
def F_X11_count (a0 : Nat) (a1 : Int32) (h : ci_H) : Option (Int32 × ci_H) := if kO h a0 = some 11 then (if a1 = 0 then ((gR h a0 11 0).bind fun v2 => (gI h v2 10 5).bind fun v3 => some (v3, h)) else if a1 = 1 then ((gR h a0 11 0).bind fun v5 => (gI h v5 10 6).bind fun v6 => some (v6, h)) else if a1 = 2 then ((gR h a0 11 0).bind fun v8 => (gI h v8 10 7).bind fun v9 => some (v9, h)) else if a1 = 3 then ((gR h a0 11 0).bind fun v11 => (gI h v11 10 8).bind fun v12 => some (v12, h)) else if a1 = 4 then ((gR h a0 11 0).bind fun v14 => (gR h v14 10 0).bind fun v15 => (gI h v15 6 4).bind fun v16 => some (v16, h)) else if a1 = 5 then ((gR h a0 11 0).bind fun v18 => (F_X10_nobodys v18 h).bind fun q19 => some (q19.1, q19.2)) else if a1 = 6 then ((gR h a0 11 0).bind fun v21 => (F_X10_lentOnes v21 h).bind fun q22 => some (q22.1, q22.2)) else if a1 = 7 then ((gR h a0 11 0).bind fun v24 => (F_X10_breakers v24 h).bind fun q25 => some (q25.1, q25.2)) else if a1 = 8 then ((gI h a0 11 13).bind fun v27 => some (v27, h)) else if a1 = 9 then ((gR h a0 11 5).bind fun v29 => (gI h v29 2 2).bind fun v30 => some (v30, h)) else if a1 = 10 then ((gI h a0 11 7).bind fun v32 => some (v32, h)) else if a1 = 11 then ((gR h a0 11 1).bind fun v34 => (gI h v34 9 1).bind fun v35 => some (v35, h)) else (some ((-1), h))) else none
theorem K_X11_count {a0 : Nat} {a1 : Int32} {h : ci_H} {r : Int32 × ci_H} (H : F_X11_count a0 a1 h = some r) : kO h a0 = some 11 := by
  unfold F_X11_count at H
  by_cases c : kO h a0 = some 11
  · exact c
  · rw [if_neg c] at H; cases H
set_option maxHeartbeats 4000000 in
set_option maxRecDepth 20000 in
theorem E_X11_count {xs : Nat → Int32} {N d : Nat} {nx : ci_N} {a0 : Nat} {a1 : Int32} {h : ci_H} {r : Int32 × ci_H} (H : F_X11_count a0 a1 h = some r) (hd : 3 ≤ d) : Ev xs N d 142 0 (ci_entry [.ref a0, .int a1] 2) [] h nx (oI r nx) := by
  obtain ⟨d, rfl⟩ : ∃ d2, d = d2 + 1 := ⟨d - 1, by omega⟩
  have hd : 2 ≤ d := by omega
  unfold F_X11_count at H
  by_cases ck : kO h a0 = some 11
  · rw [if_pos ck] at H
    show Ev xs N (d + 1) 142 0 [.ref a0, .int a1] [] h nx _
    refine ev_go hc_X11_count (k := 1) (pc' := 1) (L' := [.ref a0, .int a1]) (S' := [.int a1]) rfl ?_
    by_cases c1 : a1 = 0
    · rw [if_pos c1] at H
      refine ev_3 hc_X11_count (fe_X11_count (pc := 1) rfl) (pc' := 64) (S' := []) (by rw [c1]; rfl) ?_
      refine ev_go hc_X11_count (k := 1) (pc' := 65) (L' := [.ref a0, .int a1]) (S' := [.ref a0]) rfl ?_
      obtain ⟨v2, ev2, H⟩ := Option.bind_eq_some_iff.mp H
      refine ev_4 hc_X11_count (fe_X11_count (pc := 65) rfl) (gR_gf ev2) ?_
      obtain ⟨v3, ev3, H⟩ := Option.bind_eq_some_iff.mp H
      refine ev_4 hc_X11_count (fe_X11_count (pc := 68) rfl) (gI_gf ev3) ?_
      obtain rfl := Option.some.inj H
      exact ev_8 hc_X11_count (fe_X11_count (pc := 71) rfl) rfl
    rw [if_neg c1] at H
    by_cases c4 : a1 = 1
    · rw [if_pos c4] at H
      refine ev_3 hc_X11_count (fe_X11_count (pc := 1) rfl) (pc' := 72) (S' := []) (by rw [c4]; rfl) ?_
      refine ev_go hc_X11_count (k := 1) (pc' := 73) (L' := [.ref a0, .int a1]) (S' := [.ref a0]) rfl ?_
      obtain ⟨v5, ev5, H⟩ := Option.bind_eq_some_iff.mp H
      refine ev_4 hc_X11_count (fe_X11_count (pc := 73) rfl) (gR_gf ev5) ?_
      obtain ⟨v6, ev6, H⟩ := Option.bind_eq_some_iff.mp H
      refine ev_4 hc_X11_count (fe_X11_count (pc := 76) rfl) (gI_gf ev6) ?_
      obtain rfl := Option.some.inj H
      exact ev_8 hc_X11_count (fe_X11_count (pc := 79) rfl) rfl
    rw [if_neg c4] at H
    by_cases c7 : a1 = 2
    · rw [if_pos c7] at H
      refine ev_3 hc_X11_count (fe_X11_count (pc := 1) rfl) (pc' := 80) (S' := []) (by rw [c7]; rfl) ?_
      refine ev_go hc_X11_count (k := 1) (pc' := 81) (L' := [.ref a0, .int a1]) (S' := [.ref a0]) rfl ?_
      obtain ⟨v8, ev8, H⟩ := Option.bind_eq_some_iff.mp H
      refine ev_4 hc_X11_count (fe_X11_count (pc := 81) rfl) (gR_gf ev8) ?_
      obtain ⟨v9, ev9, H⟩ := Option.bind_eq_some_iff.mp H
      refine ev_4 hc_X11_count (fe_X11_count (pc := 84) rfl) (gI_gf ev9) ?_
      obtain rfl := Option.some.inj H
      exact ev_8 hc_X11_count (fe_X11_count (pc := 87) rfl) rfl
    rw [if_neg c7] at H
    by_cases c10 : a1 = 3
    · rw [if_pos c10] at H
      refine ev_3 hc_X11_count (fe_X11_count (pc := 1) rfl) (pc' := 88) (S' := []) (by rw [c10]; rfl) ?_
      refine ev_go hc_X11_count (k := 1) (pc' := 89) (L' := [.ref a0, .int a1]) (S' := [.ref a0]) rfl ?_
      obtain ⟨v11, ev11, H⟩ := Option.bind_eq_some_iff.mp H
      refine ev_4 hc_X11_count (fe_X11_count (pc := 89) rfl) (gR_gf ev11) ?_
      obtain ⟨v12, ev12, H⟩ := Option.bind_eq_some_iff.mp H
      refine ev_4 hc_X11_count (fe_X11_count (pc := 92) rfl) (gI_gf ev12) ?_
      obtain rfl := Option.some.inj H
      exact ev_8 hc_X11_count (fe_X11_count (pc := 95) rfl) rfl
    rw [if_neg c10] at H
    by_cases c13 : a1 = 4
    · rw [if_pos c13] at H
      refine ev_3 hc_X11_count (fe_X11_count (pc := 1) rfl) (pc' := 96) (S' := []) (by rw [c13]; rfl) ?_
      refine ev_go hc_X11_count (k := 1) (pc' := 97) (L' := [.ref a0, .int a1]) (S' := [.ref a0]) rfl ?_
      obtain ⟨v14, ev14, H⟩ := Option.bind_eq_some_iff.mp H
      refine ev_4 hc_X11_count (fe_X11_count (pc := 97) rfl) (gR_gf ev14) ?_
      obtain ⟨v15, ev15, H⟩ := Option.bind_eq_some_iff.mp H
      refine ev_4 hc_X11_count (fe_X11_count (pc := 100) rfl) (gR_gf ev15) ?_
      obtain ⟨v16, ev16, H⟩ := Option.bind_eq_some_iff.mp H
      refine ev_4 hc_X11_count (fe_X11_count (pc := 103) rfl) (gI_gf ev16) ?_
      obtain rfl := Option.some.inj H
      exact ev_8 hc_X11_count (fe_X11_count (pc := 106) rfl) rfl
    rw [if_neg c13] at H
    by_cases c17 : a1 = 5
    · rw [if_pos c17] at H
      refine ev_3 hc_X11_count (fe_X11_count (pc := 1) rfl) (pc' := 107) (S' := []) (by rw [c17]; rfl) ?_
      refine ev_go hc_X11_count (k := 1) (pc' := 108) (L' := [.ref a0, .int a1]) (S' := [.ref a0]) rfl ?_
      obtain ⟨v18, ev18, H⟩ := Option.bind_eq_some_iff.mp H
      refine ev_4 hc_X11_count (fe_X11_count (pc := 108) rfl) (gR_gf ev18) ?_
      obtain ⟨q19, eq19, H⟩ := Option.bind_eq_some_iff.mp H
      refine ev_call (vs := [.ref v18]) (rest := []) (q := q_X10_nobodys) hc_X11_count (Or.inr rfl) (fe_X11_count (pc := 111) rfl) ms_77 rfl rfl (Nat.le_of_ble_eq_true rfl) (kO_recv (K_X10_nobodys eq19)) (E_X10_nobodys eq19 (by omega)) rfl ?_
      show Ev xs N (d + 1) 142 114 [.ref a0, .int a1] [.int q19.1] q19.2 nx _
      obtain rfl := Option.some.inj H
      exact ev_8 hc_X11_count (fe_X11_count (pc := 114) rfl) rfl
    rw [if_neg c17] at H
    by_cases c20 : a1 = 6
    · rw [if_pos c20] at H
      refine ev_3 hc_X11_count (fe_X11_count (pc := 1) rfl) (pc' := 115) (S' := []) (by rw [c20]; rfl) ?_
      refine ev_go hc_X11_count (k := 1) (pc' := 116) (L' := [.ref a0, .int a1]) (S' := [.ref a0]) rfl ?_
      obtain ⟨v21, ev21, H⟩ := Option.bind_eq_some_iff.mp H
      refine ev_4 hc_X11_count (fe_X11_count (pc := 116) rfl) (gR_gf ev21) ?_
      obtain ⟨q22, eq22, H⟩ := Option.bind_eq_some_iff.mp H
      refine ev_call (vs := [.ref v21]) (rest := []) (q := q_X10_lentOnes) hc_X11_count (Or.inr rfl) (fe_X11_count (pc := 119) rfl) ms_78 rfl rfl (Nat.le_of_ble_eq_true rfl) (kO_recv (K_X10_lentOnes eq22)) (E_X10_lentOnes eq22 (by omega)) rfl ?_
      show Ev xs N (d + 1) 142 122 [.ref a0, .int a1] [.int q22.1] q22.2 nx _
      obtain rfl := Option.some.inj H
      exact ev_8 hc_X11_count (fe_X11_count (pc := 122) rfl) rfl
    rw [if_neg c20] at H
    by_cases c23 : a1 = 7
    · rw [if_pos c23] at H
      refine ev_3 hc_X11_count (fe_X11_count (pc := 1) rfl) (pc' := 123) (S' := []) (by rw [c23]; rfl) ?_
      refine ev_go hc_X11_count (k := 1) (pc' := 124) (L' := [.ref a0, .int a1]) (S' := [.ref a0]) rfl ?_
      obtain ⟨v24, ev24, H⟩ := Option.bind_eq_some_iff.mp H
      refine ev_4 hc_X11_count (fe_X11_count (pc := 124) rfl) (gR_gf ev24) ?_
      obtain ⟨q25, eq25, H⟩ := Option.bind_eq_some_iff.mp H
      refine ev_call (vs := [.ref v24]) (rest := []) (q := q_X10_breakers) hc_X11_count (Or.inr rfl) (fe_X11_count (pc := 127) rfl) ms_84 rfl rfl (Nat.le_of_ble_eq_true rfl) (kO_recv (K_X10_breakers eq25)) (E_X10_breakers eq25 (by omega)) rfl ?_
      show Ev xs N (d + 1) 142 130 [.ref a0, .int a1] [.int q25.1] q25.2 nx _
      obtain rfl := Option.some.inj H
      exact ev_8 hc_X11_count (fe_X11_count (pc := 130) rfl) rfl
    rw [if_neg c23] at H
    by_cases c26 : a1 = 8
    · rw [if_pos c26] at H
      refine ev_3 hc_X11_count (fe_X11_count (pc := 1) rfl) (pc' := 131) (S' := []) (by rw [c26]; rfl) ?_
      refine ev_go hc_X11_count (k := 1) (pc' := 132) (L' := [.ref a0, .int a1]) (S' := [.ref a0]) rfl ?_
      obtain ⟨v27, ev27, H⟩ := Option.bind_eq_some_iff.mp H
      refine ev_4 hc_X11_count (fe_X11_count (pc := 132) rfl) (gI_gf ev27) ?_
      obtain rfl := Option.some.inj H
      exact ev_8 hc_X11_count (fe_X11_count (pc := 135) rfl) rfl
    rw [if_neg c26] at H
    by_cases c28 : a1 = 9
    · rw [if_pos c28] at H
      refine ev_3 hc_X11_count (fe_X11_count (pc := 1) rfl) (pc' := 136) (S' := []) (by rw [c28]; rfl) ?_
      refine ev_go hc_X11_count (k := 1) (pc' := 137) (L' := [.ref a0, .int a1]) (S' := [.ref a0]) rfl ?_
      obtain ⟨v29, ev29, H⟩ := Option.bind_eq_some_iff.mp H
      refine ev_4 hc_X11_count (fe_X11_count (pc := 137) rfl) (gR_gf ev29) ?_
      obtain ⟨v30, ev30, H⟩ := Option.bind_eq_some_iff.mp H
      refine ev_4 hc_X11_count (fe_X11_count (pc := 140) rfl) (gI_gf ev30) ?_
      obtain rfl := Option.some.inj H
      exact ev_8 hc_X11_count (fe_X11_count (pc := 143) rfl) rfl
    rw [if_neg c28] at H
    by_cases c31 : a1 = 10
    · rw [if_pos c31] at H
      refine ev_3 hc_X11_count (fe_X11_count (pc := 1) rfl) (pc' := 144) (S' := []) (by rw [c31]; rfl) ?_
      refine ev_go hc_X11_count (k := 1) (pc' := 145) (L' := [.ref a0, .int a1]) (S' := [.ref a0]) rfl ?_
      obtain ⟨v32, ev32, H⟩ := Option.bind_eq_some_iff.mp H
      refine ev_4 hc_X11_count (fe_X11_count (pc := 145) rfl) (gI_gf ev32) ?_
      obtain rfl := Option.some.inj H
      exact ev_8 hc_X11_count (fe_X11_count (pc := 148) rfl) rfl
    rw [if_neg c31] at H
    by_cases c33 : a1 = 11
    · rw [if_pos c33] at H
      refine ev_3 hc_X11_count (fe_X11_count (pc := 1) rfl) (pc' := 149) (S' := []) (by rw [c33]; rfl) ?_
      refine ev_go hc_X11_count (k := 1) (pc' := 150) (L' := [.ref a0, .int a1]) (S' := [.ref a0]) rfl ?_
      obtain ⟨v34, ev34, H⟩ := Option.bind_eq_some_iff.mp H
      refine ev_4 hc_X11_count (fe_X11_count (pc := 150) rfl) (gR_gf ev34) ?_
      obtain ⟨v35, ev35, H⟩ := Option.bind_eq_some_iff.mp H
      refine ev_4 hc_X11_count (fe_X11_count (pc := 153) rfl) (gI_gf ev35) ?_
      obtain rfl := Option.some.inj H
      exact ev_8 hc_X11_count (fe_X11_count (pc := 156) rfl) rfl
    rw [if_neg c33] at H
    refine ev_3 hc_X11_count (fe_X11_count (pc := 1) rfl) (pc' := 157) (S' := []) (sw_out (by have := And.intro True.intro True.intro; have := lv_neT c1 (a := 0) (by decide); have := lv_neT c4 (a := 1) (by decide); have := lv_neT c7 (a := 2) (by decide); have := lv_neT c10 (a := 3) (by decide); have := lv_neT c13 (a := 4) (by decide); have := lv_neT c17 (a := 5) (by decide); have := lv_neT c20 (a := 6) (by decide); have := lv_neT c23 (a := 7) (by decide); have := lv_neT c26 (a := 8) (by decide); have := lv_neT c28 (a := 9) (by decide); have := lv_neT c31 (a := 10) (by decide); have := lv_neT c33 (a := 11) (by decide); omega)) ?_
    refine ev_go hc_X11_count (k := 1) (pc' := 158) (L' := [.ref a0, .int a1]) (S' := [.int ((-1))]) rfl ?_
    obtain rfl := Option.some.inj H
    exact ev_8 hc_X11_count (fe_X11_count (pc := 158) rfl) rfl
  · rw [if_neg ck] at H; cases H
theorem hc_X11_row : ci_code (ci_Ms 143) = k_X11_row := rfl
theorem fe_X11_row {pc : Nat} {w : Option ci_I} (h : (k_X11_row)[pc]? = some w) : (k_X11_row)[pc]? = some w := h
def F_X11_row (a0 : Nat) (a1 : Int32) (h : ci_H) : Option (Option Int64 × ci_H) := if kO h a0 = some 11 then (if a1 < 0 then (some (none, h)) else ((gI h a0 11 7).bind fun v2 => if a1 < v2 then ((gR h a0 11 6).bind fun v4 => (rL h v4 a1).bind fun v5 => some (some v5, h)) else (some (none, h)))) else none
theorem K_X11_row {a0 : Nat} {a1 : Int32} {h : ci_H} {r : Option Int64 × ci_H} (H : F_X11_row a0 a1 h = some r) : kO h a0 = some 11 := by
  unfold F_X11_row at H
  by_cases c : kO h a0 = some 11
  · exact c
  · rw [if_neg c] at H; cases H
set_option maxHeartbeats 4000000 in
set_option maxRecDepth 20000 in
theorem E_X11_row {xs : Nat → Int32} {N d : Nat} {nx : ci_N} {a0 : Nat} {a1 : Int32} {h : ci_H} {r : Option Int64 × ci_H} (H : F_X11_row a0 a1 h = some r) (hd : 0 ≤ d) : Ev xs N d 143 0 (ci_entry [.ref a0, .int a1] 2) [] h nx (oU r nx) := by
  unfold F_X11_row at H
  by_cases ck : kO h a0 = some 11
  · rw [if_pos ck] at H
    show Ev xs N d 143 0 [.ref a0, .int a1] [] h nx _
    refine ev_go hc_X11_row (k := 1) (pc' := 1) (L' := [.ref a0, .int a1]) (S' := [.int a1]) rfl ?_
    by_cases c1 : a1 < 0
    · rw [if_pos c1] at H
      refine ev_bt hc_X11_row (fe_X11_row (pc := 1) rfl) rfl c1 ?_
      obtain rfl := Option.some.inj H
      exact ev_9 hc_X11_row (fe_X11_row (pc := 12) rfl) rfl
    · rw [if_neg c1] at H
      refine ev_bf hc_X11_row (fe_X11_row (pc := 1) rfl) rfl c1 ?_
      refine ev_go hc_X11_row (k := 2) (pc' := 6) (L' := [.ref a0, .int a1]) (S' := [.ref a0, .int a1]) rfl ?_
      obtain ⟨v2, ev2, H⟩ := Option.bind_eq_some_iff.mp H
      refine ev_4 hc_X11_row (fe_X11_row (pc := 6) rfl) (gI_gf ev2) ?_
      by_cases c3 : a1 < v2
      · rw [if_pos c3] at H
        refine ev_bt hc_X11_row (fe_X11_row (pc := 9) rfl) rfl c3 ?_
        refine ev_go hc_X11_row (k := 1) (pc' := 21) (L' := [.ref a0, .int a1]) (S' := [.ref a0]) rfl ?_
        obtain ⟨v4, ev4, H⟩ := Option.bind_eq_some_iff.mp H
        refine ev_4 hc_X11_row (fe_X11_row (pc := 21) rfl) (gR_gf ev4) ?_
        refine ev_go hc_X11_row (k := 1) (pc' := 25) (L' := [.ref a0, .int a1]) (S' := [.int a1, .ref v4]) rfl ?_
        obtain ⟨v5, ev5, H⟩ := Option.bind_eq_some_iff.mp H
        refine ev_4 hc_X11_row (fe_X11_row (pc := 25) rfl) (rL_al ev5) ?_
        obtain rfl := Option.some.inj H
        exact ev_8 hc_X11_row (fe_X11_row (pc := 26) rfl) rfl
      · rw [if_neg c3] at H
        refine ev_bf hc_X11_row (fe_X11_row (pc := 9) rfl) rfl c3 ?_
        obtain rfl := Option.some.inj H
        exact ev_9 hc_X11_row (fe_X11_row (pc := 12) rfl) rfl
  · rw [if_neg ck] at H; cases H
theorem hc_X12_thrown : ci_code (ci_Ms 169) = k_X12_thrown := rfl
theorem fe_X12_thrown {pc : Nat} {w : Option ci_I} (h : (k_X12_thrown)[pc]? = some w) : (k_X12_thrown)[pc]? = some w := h
def F_X12_thrown (a0 : Nat) (h : ci_H) : Option (Int32 × ci_H) := if kO h a0 = some 12 then ((gI h a0 12 11).bind fun v1 => some (v1, h)) else none
theorem K_X12_thrown {a0 : Nat} {h : ci_H} {r : Int32 × ci_H} (H : F_X12_thrown a0 h = some r) : kO h a0 = some 12 := by
  unfold F_X12_thrown at H
  by_cases c : kO h a0 = some 12
  · exact c
  · rw [if_neg c] at H; cases H
set_option maxHeartbeats 4000000 in
set_option maxRecDepth 20000 in
theorem E_X12_thrown {xs : Nat → Int32} {N d : Nat} {nx : ci_N} {a0 : Nat} {h : ci_H} {r : Int32 × ci_H} (H : F_X12_thrown a0 h = some r) (hd : 0 ≤ d) : Ev xs N d 169 0 (ci_entry [.ref a0] 1) [] h nx (oI r nx) := by
  unfold F_X12_thrown at H
  by_cases ck : kO h a0 = some 12
  · rw [if_pos ck] at H
    show Ev xs N d 169 0 [.ref a0] [] h nx _
    refine ev_go hc_X12_thrown (k := 1) (pc' := 1) (L' := [.ref a0]) (S' := [.ref a0]) rfl ?_
    obtain ⟨v1, ev1, H⟩ := Option.bind_eq_some_iff.mp H
    refine ev_4 hc_X12_thrown (fe_X12_thrown (pc := 1) rfl) (gI_gf ev1) ?_
    obtain rfl := Option.some.inj H
    exact ev_8 hc_X12_thrown (fe_X12_thrown (pc := 4) rfl) rfl
  · rw [if_neg ck] at H; cases H
theorem hc_X12_in : ci_code (ci_Ms 170) = k_X12_in := rfl
theorem fe_X12_in {pc : Nat} {w : Option ci_I} (h : (k_X12_in)[pc]? = some w) : (k_X12_in)[pc]? = some w := h
def F_X12_in (a0 : Int32) (a1 : Int32) (a2 : Int32) (h : ci_H) : Option (Int32 × ci_H) := if a0 < a1 then (some (0, h)) else (if a2 < a0 then (some (0, h)) else (some (1, h)))
set_option maxHeartbeats 4000000 in
set_option maxRecDepth 20000 in
theorem E_X12_in {xs : Nat → Int32} {N d : Nat} {nx : ci_N} {a0 : Int32} {a1 : Int32} {a2 : Int32} {h : ci_H} {r : Int32 × ci_H} (H : F_X12_in a0 a1 a2 h = some r) (hd : 0 ≤ d) : Ev xs N d 170 0 (ci_entry [.int a0, .int a1, .int a2] 3) [] h nx (oI r nx) := by
  unfold F_X12_in at H
  show Ev xs N d 170 0 [.int a0, .int a1, .int a2] [] h nx _
  refine ev_go hc_X12_in (k := 2) (pc' := 2) (L' := [.int a0, .int a1, .int a2]) (S' := [.int a1, .int a0]) rfl ?_
  by_cases c1 : a0 < a1
  · rw [if_pos c1] at H
    refine ev_bt hc_X12_in (fe_X12_in (pc := 2) rfl) rfl c1 ?_
    refine ev_go hc_X12_in (k := 1) (pc' := 15) (L' := [.int a0, .int a1, .int a2]) (S' := [.int 0]) rfl ?_
    obtain rfl := Option.some.inj H
    exact ev_8z hc_X12_in (fe_X12_in (pc := 15) rfl) rfl (Or.inl rfl)
  · rw [if_neg c1] at H
    refine ev_bf hc_X12_in (fe_X12_in (pc := 2) rfl) rfl c1 ?_
    refine ev_go hc_X12_in (k := 2) (pc' := 7) (L' := [.int a0, .int a1, .int a2]) (S' := [.int a2, .int a0]) rfl ?_
    by_cases c2 : a2 < a0
    · rw [if_pos c2] at H
      refine ev_bt hc_X12_in (fe_X12_in (pc := 7) rfl) rfl c2 ?_
      refine ev_go hc_X12_in (k := 1) (pc' := 15) (L' := [.int a0, .int a1, .int a2]) (S' := [.int 0]) rfl ?_
      obtain rfl := Option.some.inj H
      exact ev_8z hc_X12_in (fe_X12_in (pc := 15) rfl) rfl (Or.inl rfl)
    · rw [if_neg c2] at H
      refine ev_bf hc_X12_in (fe_X12_in (pc := 7) rfl) rfl c2 ?_
      refine ev_go hc_X12_in (k := 2) (pc' := 15) (L' := [.int a0, .int a1, .int a2]) (S' := [.int 1]) rfl ?_
      obtain rfl := Option.some.inj H
      exact ev_8z hc_X12_in (fe_X12_in (pc := 15) rfl) rfl (Or.inr rfl)
theorem hc_X12_has : ci_code (ci_Ms 171) = k_X12_has := rfl
theorem fe_X12_has {pc : Nat} {w : Option ci_I} (h : (k_X12_has)[pc]? = some w) : (k_X12_has)[pc]? = some w := h
def F_X12_has (a0 : Int32) (a1 : Int32) (h : ci_H) : Option (Int32 × ci_H) := if ((a0 >>> (a1 &&& 31)) &&& 1) = 1 then (some (1, h)) else (some (0, h))
set_option maxHeartbeats 4000000 in
set_option maxRecDepth 20000 in
theorem E_X12_has {xs : Nat → Int32} {N d : Nat} {nx : ci_N} {a0 : Int32} {a1 : Int32} {h : ci_H} {r : Int32 × ci_H} (H : F_X12_has a0 a1 h = some r) (hd : 0 ≤ d) : Ev xs N d 171 0 (ci_entry [.int a0, .int a1] 2) [] h nx (oI r nx) := by
  unfold F_X12_has at H
  show Ev xs N d 171 0 [.int a0, .int a1] [] h nx _
  refine ev_go hc_X12_has (k := 6) (pc' := 6) (L' := [.int a0, .int a1]) (S' := [.int 1, .int ((a0 >>> (a1 &&& 31)) &&& 1)]) rfl ?_
  by_cases c1 : ((a0 >>> (a1 &&& 31)) &&& 1) = 1
  · rw [if_pos c1] at H
    refine ev_bt hc_X12_has (fe_X12_has (pc := 6) rfl) rfl c1 ?_
    refine ev_go hc_X12_has (k := 2) (pc' := 14) (L' := [.int a0, .int a1]) (S' := [.int 1]) rfl ?_
    obtain rfl := Option.some.inj H
    exact ev_8z hc_X12_has (fe_X12_has (pc := 14) rfl) rfl (Or.inr rfl)
  · rw [if_neg c1] at H
    refine ev_bf hc_X12_has (fe_X12_has (pc := 6) rfl) rfl c1 ?_
    refine ev_go hc_X12_has (k := 1) (pc' := 14) (L' := [.int a0, .int a1]) (S' := [.int 0]) rfl ?_
    obtain rfl := Option.some.inj H
    exact ev_8z hc_X12_has (fe_X12_has (pc := 14) rfl) rfl (Or.inl rfl)
theorem hc_X12_lost : ci_code (ci_Ms 172) = k_X12_lost := rfl
theorem fe_X12_lost {pc : Nat} {w : Option ci_I} (h : (k_X12_lost)[pc]? = some w) : (k_X12_lost)[pc]? = some w := h
def F_X12_lost (a0 : Nat) (h : ci_H) : Option (Int32 × ci_H) := if kO h a0 = some 12 then ((pF h a0 12 11 (.int 1)).bind fun h1 => some (0, h1)) else none
theorem K_X12_lost {a0 : Nat} {h : ci_H} {r : Int32 × ci_H} (H : F_X12_lost a0 h = some r) : kO h a0 = some 12 := by
  unfold F_X12_lost at H
  by_cases c : kO h a0 = some 12
  · exact c
  · rw [if_neg c] at H; cases H
set_option maxHeartbeats 4000000 in
set_option maxRecDepth 20000 in
theorem E_X12_lost {xs : Nat → Int32} {N d : Nat} {nx : ci_N} {a0 : Nat} {h : ci_H} {r : Int32 × ci_H} (H : F_X12_lost a0 h = some r) (hd : 0 ≤ d) : Ev xs N d 172 0 (ci_entry [.ref a0] 1) [] h nx (oI r nx) := by
  unfold F_X12_lost at H
  by_cases ck : kO h a0 = some 12
  · rw [if_pos ck] at H
    show Ev xs N d 172 0 [.ref a0] [] h nx _
    refine ev_go hc_X12_lost (k := 2) (pc' := 2) (L' := [.ref a0]) (S' := [.int 1, .ref a0]) rfl ?_
    obtain ⟨h1, eh1, H⟩ := Option.bind_eq_some_iff.mp H
    refine ev_5 hc_X12_lost (fe_X12_lost (pc := 2) rfl) (pF_pf eh1) ?_
    refine ev_go hc_X12_lost (k := 1) (pc' := 6) (L' := [.ref a0]) (S' := [.int 0]) rfl ?_
    obtain rfl := Option.some.inj H
    exact ev_8 hc_X12_lost (fe_X12_lost (pc := 6) rfl) rfl
  · rw [if_neg ck] at H; cases H
theorem hc_X12_tell : ci_code (ci_Ms 173) = k_X12_tell := rfl
theorem fe_X12_tell {pc : Nat} {w : Option ci_I} (h : (k_X12_tell)[pc]? = some w) : (k_X12_tell)[pc]? = some w := h
def F_X12_tell (a0 : Nat) (a1 : Int64) (h : ci_H) : Option (ci_H) := if kO h a0 = some 12 then ((gR h a0 12 9).bind fun v1 => (gI h a0 12 10).bind fun v2 => (wL h v1 v2 a1).bind fun h3 => (gI h3 a0 12 10).bind fun v4 => (pF h3 a0 12 10 (.int (v4 + 1))).bind fun h5 => some h5) else none
theorem K_X12_tell {a0 : Nat} {a1 : Int64} {h : ci_H} {r : ci_H} (H : F_X12_tell a0 a1 h = some r) : kO h a0 = some 12 := by
  unfold F_X12_tell at H
  by_cases c : kO h a0 = some 12
  · exact c
  · rw [if_neg c] at H; cases H
set_option maxHeartbeats 4000000 in
set_option maxRecDepth 20000 in
theorem E_X12_tell {xs : Nat → Int32} {N d : Nat} {nx : ci_N} {a0 : Nat} {a1 : Int64} {h : ci_H} {r : ci_H} (H : F_X12_tell a0 a1 h = some r) (hd : 0 ≤ d) : Ev xs N d 173 0 (ci_entry [.ref a0, .long a1] 3) [] h nx (oV r nx) := by
  unfold F_X12_tell at H
  by_cases ck : kO h a0 = some 12
  · rw [if_pos ck] at H
    show Ev xs N d 173 0 [.ref a0, .long a1, ci_junk] [] h nx _
    refine ev_go hc_X12_tell (k := 1) (pc' := 1) (L' := [.ref a0, .long a1, ci_junk]) (S' := [.ref a0]) rfl ?_
    obtain ⟨v1, ev1, H⟩ := Option.bind_eq_some_iff.mp H
    refine ev_4 hc_X12_tell (fe_X12_tell (pc := 1) rfl) (gR_gf ev1) ?_
    refine ev_go hc_X12_tell (k := 1) (pc' := 5) (L' := [.ref a0, .long a1, ci_junk]) (S' := [.ref a0, .ref v1]) rfl ?_
    obtain ⟨v2, ev2, H⟩ := Option.bind_eq_some_iff.mp H
    refine ev_4 hc_X12_tell (fe_X12_tell (pc := 5) rfl) (gI_gf ev2) ?_
    refine ev_go hc_X12_tell (k := 1) (pc' := 9) (L' := [.ref a0, .long a1, ci_junk]) (S' := [.long a1, .int v2, .ref v1]) rfl ?_
    obtain ⟨h3, eh3, H⟩ := Option.bind_eq_some_iff.mp H
    refine ev_5 hc_X12_tell (fe_X12_tell (pc := 9) rfl) (wL_as eh3) ?_
    refine ev_go hc_X12_tell (k := 2) (pc' := 12) (L' := [.ref a0, .long a1, ci_junk]) (S' := [.ref a0, .ref a0]) rfl ?_
    obtain ⟨v4, ev4, H⟩ := Option.bind_eq_some_iff.mp H
    refine ev_4 hc_X12_tell (fe_X12_tell (pc := 12) rfl) (gI_gf ev4) ?_
    refine ev_go hc_X12_tell (k := 2) (pc' := 17) (L' := [.ref a0, .long a1, ci_junk]) (S' := [.int (v4 + 1), .ref a0]) rfl ?_
    obtain ⟨h5, eh5, H⟩ := Option.bind_eq_some_iff.mp H
    refine ev_5 hc_X12_tell (fe_X12_tell (pc := 17) rfl) (pF_pf eh5) ?_
    obtain rfl := Option.some.inj H
    exact ev_8 hc_X12_tell (fe_X12_tell (pc := 20) rfl) rfl
  · rw [if_neg ck] at H; cases H
theorem hc_X12_isThing : ci_code (ci_Ms 174) = k_X12_isThing := rfl
theorem fe_X12_isThing {pc : Nat} {w : Option ci_I} (h : (k_X12_isThing)[pc]? = some w) : (k_X12_isThing)[pc]? = some w := h
def F_X12_isThing (a0 : Nat) (a1 : Int32) (h : ci_H) : Option (Int32 × ci_H) := if kO h a0 = some 12 then ((gI h a0 12 2).bind fun v1 => (F_X12_in a1 0 (v1 - 1) h).bind fun q2 => if q2.1 = 0 ∨ q2.1 = 1 then some (q2.1, q2.2) else none) else none
theorem K_X12_isThing {a0 : Nat} {a1 : Int32} {h : ci_H} {r : Int32 × ci_H} (H : F_X12_isThing a0 a1 h = some r) : kO h a0 = some 12 := by
  unfold F_X12_isThing at H
  by_cases c : kO h a0 = some 12
  · exact c
  · rw [if_neg c] at H; cases H
set_option maxHeartbeats 4000000 in
set_option maxRecDepth 20000 in
theorem E_X12_isThing {xs : Nat → Int32} {N d : Nat} {nx : ci_N} {a0 : Nat} {a1 : Int32} {h : ci_H} {r : Int32 × ci_H} (H : F_X12_isThing a0 a1 h = some r) (hd : 1 ≤ d) : Ev xs N d 174 0 (ci_entry [.ref a0, .int a1] 2) [] h nx (oI r nx) := by
  obtain ⟨d, rfl⟩ : ∃ d2, d = d2 + 1 := ⟨d - 1, by omega⟩
  have hd : 0 ≤ d := by omega
  unfold F_X12_isThing at H
  by_cases ck : kO h a0 = some 12
  · rw [if_pos ck] at H
    show Ev xs N (d + 1) 174 0 [.ref a0, .int a1] [] h nx _
    refine ev_go hc_X12_isThing (k := 3) (pc' := 3) (L' := [.ref a0, .int a1]) (S' := [.ref a0, .int 0, .int a1]) rfl ?_
    obtain ⟨v1, ev1, H⟩ := Option.bind_eq_some_iff.mp H
    refine ev_4 hc_X12_isThing (fe_X12_isThing (pc := 3) rfl) (gI_gf ev1) ?_
    refine ev_go hc_X12_isThing (k := 2) (pc' := 8) (L' := [.ref a0, .int a1]) (S' := [.int (v1 - 1), .int 0, .int a1]) rfl ?_
    obtain ⟨q2, eq2, H⟩ := Option.bind_eq_some_iff.mp H
    refine ev_call (vs := [.int a1, .int 0, .int (v1 - 1)]) (rest := []) (q := q_X12_in) hc_X12_isThing (Or.inl rfl) (fe_X12_isThing (pc := 8) rfl) ms_170 rfl rfl (Nat.le_of_ble_eq_true rfl) rfl (E_X12_in eq2 (by omega)) rfl ?_
    show Ev xs N (d + 1) 174 11 [.ref a0, .int a1] [.int q2.1] q2.2 nx _
    by_cases c3 : q2.1 = 0 ∨ q2.1 = 1
    · rw [if_pos c3] at H
      obtain rfl := Option.some.inj H
      exact ev_8z hc_X12_isThing (fe_X12_isThing (pc := 11) rfl) rfl c3
    · rw [if_neg c3] at H
      cases H
  · rw [if_neg ck] at H; cases H
theorem hc_X12_isHouse : ci_code (ci_Ms 175) = k_X12_isHouse := rfl
theorem fe_X12_isHouse {pc : Nat} {w : Option ci_I} (h : (k_X12_isHouse)[pc]? = some w) : (k_X12_isHouse)[pc]? = some w := h
def F_X12_isHouse (a0 : Nat) (a1 : Int32) (h : ci_H) : Option (Int32 × ci_H) := if kO h a0 = some 12 then ((gI h a0 12 1).bind fun v1 => (F_X12_in a1 0 (v1 - 1) h).bind fun q2 => if q2.1 = 0 ∨ q2.1 = 1 then some (q2.1, q2.2) else none) else none
theorem K_X12_isHouse {a0 : Nat} {a1 : Int32} {h : ci_H} {r : Int32 × ci_H} (H : F_X12_isHouse a0 a1 h = some r) : kO h a0 = some 12 := by
  unfold F_X12_isHouse at H
  by_cases c : kO h a0 = some 12
  · exact c
  · rw [if_neg c] at H; cases H
set_option maxHeartbeats 4000000 in
set_option maxRecDepth 20000 in
theorem E_X12_isHouse {xs : Nat → Int32} {N d : Nat} {nx : ci_N} {a0 : Nat} {a1 : Int32} {h : ci_H} {r : Int32 × ci_H} (H : F_X12_isHouse a0 a1 h = some r) (hd : 1 ≤ d) : Ev xs N d 175 0 (ci_entry [.ref a0, .int a1] 2) [] h nx (oI r nx) := by
  obtain ⟨d, rfl⟩ : ∃ d2, d = d2 + 1 := ⟨d - 1, by omega⟩
  have hd : 0 ≤ d := by omega
  unfold F_X12_isHouse at H
  by_cases ck : kO h a0 = some 12
  · rw [if_pos ck] at H
    show Ev xs N (d + 1) 175 0 [.ref a0, .int a1] [] h nx _
    refine ev_go hc_X12_isHouse (k := 3) (pc' := 3) (L' := [.ref a0, .int a1]) (S' := [.ref a0, .int 0, .int a1]) rfl ?_
    obtain ⟨v1, ev1, H⟩ := Option.bind_eq_some_iff.mp H
    refine ev_4 hc_X12_isHouse (fe_X12_isHouse (pc := 3) rfl) (gI_gf ev1) ?_
    refine ev_go hc_X12_isHouse (k := 2) (pc' := 8) (L' := [.ref a0, .int a1]) (S' := [.int (v1 - 1), .int 0, .int a1]) rfl ?_
    obtain ⟨q2, eq2, H⟩ := Option.bind_eq_some_iff.mp H
    refine ev_call (vs := [.int a1, .int 0, .int (v1 - 1)]) (rest := []) (q := q_X12_in) hc_X12_isHouse (Or.inl rfl) (fe_X12_isHouse (pc := 8) rfl) ms_170 rfl rfl (Nat.le_of_ble_eq_true rfl) rfl (E_X12_in eq2 (by omega)) rfl ?_
    show Ev xs N (d + 1) 175 11 [.ref a0, .int a1] [.int q2.1] q2.2 nx _
    by_cases c3 : q2.1 = 0 ∨ q2.1 = 1
    · rw [if_pos c3] at H
      obtain rfl := Option.some.inj H
      exact ev_8z hc_X12_isHouse (fe_X12_isHouse (pc := 11) rfl) rfl c3
    · rw [if_neg c3] at H
      cases H
  · rw [if_neg ck] at H; cases H
theorem hc_X12_isKind : ci_code (ci_Ms 176) = k_X12_isKind := rfl
theorem fe_X12_isKind {pc : Nat} {w : Option ci_I} (h : (k_X12_isKind)[pc]? = some w) : (k_X12_isKind)[pc]? = some w := h
def F_X12_isKind (a0 : Nat) (a1 : Int32) (h : ci_H) : Option (Int32 × ci_H) := if kO h a0 = some 12 then ((gI h a0 12 3).bind fun v1 => (F_X12_in a1 0 (v1 - 1) h).bind fun q2 => if q2.1 = 0 ∨ q2.1 = 1 then some (q2.1, q2.2) else none) else none
theorem K_X12_isKind {a0 : Nat} {a1 : Int32} {h : ci_H} {r : Int32 × ci_H} (H : F_X12_isKind a0 a1 h = some r) : kO h a0 = some 12 := by
  unfold F_X12_isKind at H
  by_cases c : kO h a0 = some 12
  · exact c
  · rw [if_neg c] at H; cases H
set_option maxHeartbeats 4000000 in
set_option maxRecDepth 20000 in
theorem E_X12_isKind {xs : Nat → Int32} {N d : Nat} {nx : ci_N} {a0 : Nat} {a1 : Int32} {h : ci_H} {r : Int32 × ci_H} (H : F_X12_isKind a0 a1 h = some r) (hd : 1 ≤ d) : Ev xs N d 176 0 (ci_entry [.ref a0, .int a1] 2) [] h nx (oI r nx) := by
  obtain ⟨d, rfl⟩ : ∃ d2, d = d2 + 1 := ⟨d - 1, by omega⟩
  have hd : 0 ≤ d := by omega
  unfold F_X12_isKind at H
  by_cases ck : kO h a0 = some 12
  · rw [if_pos ck] at H
    show Ev xs N (d + 1) 176 0 [.ref a0, .int a1] [] h nx _
    refine ev_go hc_X12_isKind (k := 3) (pc' := 3) (L' := [.ref a0, .int a1]) (S' := [.ref a0, .int 0, .int a1]) rfl ?_
    obtain ⟨v1, ev1, H⟩ := Option.bind_eq_some_iff.mp H
    refine ev_4 hc_X12_isKind (fe_X12_isKind (pc := 3) rfl) (gI_gf ev1) ?_
    refine ev_go hc_X12_isKind (k := 2) (pc' := 8) (L' := [.ref a0, .int a1]) (S' := [.int (v1 - 1), .int 0, .int a1]) rfl ?_
    obtain ⟨q2, eq2, H⟩ := Option.bind_eq_some_iff.mp H
    refine ev_call (vs := [.int a1, .int 0, .int (v1 - 1)]) (rest := []) (q := q_X12_in) hc_X12_isKind (Or.inl rfl) (fe_X12_isKind (pc := 8) rfl) ms_170 rfl rfl (Nat.le_of_ble_eq_true rfl) rfl (E_X12_in eq2 (by omega)) rfl ?_
    show Ev xs N (d + 1) 176 11 [.ref a0, .int a1] [.int q2.1] q2.2 nx _
    by_cases c3 : q2.1 = 0 ∨ q2.1 = 1
    · rw [if_pos c3] at H
      obtain rfl := Option.some.inj H
      exact ev_8z hc_X12_isKind (fe_X12_isKind (pc := 11) rfl) rfl c3
    · rw [if_neg c3] at H
      cases H
  · rw [if_neg ck] at H; cases H
theorem hc_X12_areThings : ci_code (ci_Ms 177) = k_X12_areThings := rfl
theorem fe_X12_areThings {pc : Nat} {w : Option ci_I} (h : (k_X12_areThings)[pc]? = some w) : (k_X12_areThings)[pc]? = some w := h
def F_X12_areThings (a0 : Nat) (a1 : Int32) (h : ci_H) : Option (Int32 × ci_H) := if kO h a0 = some 12 then ((gI h a0 12 2).bind fun v1 => (F_X12_in a1 0 (((1 : Int32) <<< (v1 &&& 31)) - 1) h).bind fun q2 => if q2.1 = 0 ∨ q2.1 = 1 then some (q2.1, q2.2) else none) else none
theorem K_X12_areThings {a0 : Nat} {a1 : Int32} {h : ci_H} {r : Int32 × ci_H} (H : F_X12_areThings a0 a1 h = some r) : kO h a0 = some 12 := by
  unfold F_X12_areThings at H
  by_cases c : kO h a0 = some 12
  · exact c
  · rw [if_neg c] at H; cases H
set_option maxHeartbeats 4000000 in
set_option maxRecDepth 20000 in
theorem E_X12_areThings {xs : Nat → Int32} {N d : Nat} {nx : ci_N} {a0 : Nat} {a1 : Int32} {h : ci_H} {r : Int32 × ci_H} (H : F_X12_areThings a0 a1 h = some r) (hd : 1 ≤ d) : Ev xs N d 177 0 (ci_entry [.ref a0, .int a1] 2) [] h nx (oI r nx) := by
  obtain ⟨d, rfl⟩ : ∃ d2, d = d2 + 1 := ⟨d - 1, by omega⟩
  have hd : 0 ≤ d := by omega
  unfold F_X12_areThings at H
  by_cases ck : kO h a0 = some 12
  · rw [if_pos ck] at H
    show Ev xs N (d + 1) 177 0 [.ref a0, .int a1] [] h nx _
    refine ev_go hc_X12_areThings (k := 4) (pc' := 4) (L' := [.ref a0, .int a1]) (S' := [.ref a0, .int 1, .int 0, .int a1]) rfl ?_
    obtain ⟨v1, ev1, H⟩ := Option.bind_eq_some_iff.mp H
    refine ev_4 hc_X12_areThings (fe_X12_areThings (pc := 4) rfl) (gI_gf ev1) ?_
    refine ev_go hc_X12_areThings (k := 3) (pc' := 10) (L' := [.ref a0, .int a1]) (S' := [.int (((1 : Int32) <<< (v1 &&& 31)) - 1), .int 0, .int a1]) rfl ?_
    obtain ⟨q2, eq2, H⟩ := Option.bind_eq_some_iff.mp H
    refine ev_call (vs := [.int a1, .int 0, .int (((1 : Int32) <<< (v1 &&& 31)) - 1)]) (rest := []) (q := q_X12_in) hc_X12_areThings (Or.inl rfl) (fe_X12_areThings (pc := 10) rfl) ms_170 rfl rfl (Nat.le_of_ble_eq_true rfl) rfl (E_X12_in eq2 (by omega)) rfl ?_
    show Ev xs N (d + 1) 177 13 [.ref a0, .int a1] [.int q2.1] q2.2 nx _
    by_cases c3 : q2.1 = 0 ∨ q2.1 = 1
    · rw [if_pos c3] at H
      obtain rfl := Option.some.inj H
      exact ev_8z hc_X12_areThings (fe_X12_areThings (pc := 13) rfl) rfl c3
    · rw [if_neg c3] at H
      cases H
  · rw [if_neg ck] at H; cases H
theorem hc_X12_sign : ci_code (ci_Ms 178) = k_X12_sign := rfl
theorem fe_X12_sign {pc : Nat} {w : Option ci_I} (h : (k_X12_sign)[pc]? = some w) : (k_X12_sign)[pc]? = some w := h
def b_X12_sign_20 (l0 : Nat) (l1 : Int32) : Nat → Int32 → ci_H → Option (Int32 × ci_H)
  | 0, _, _ => none
  | n + 1, l2, h => if l2 < 0 then ((gI h l0 12 8).bind fun v2 => some (v2, h)) else ((gR h l0 12 7).bind fun v3 => (gI h l0 12 8).bind fun v4 => (pF h l0 12 8 (.int (v4 + 1))).bind fun h5 => (wB h5 v3 v4 ((l1 >>> ((8 * l2) &&& 31) : Int32).toInt8.toInt32)).bind fun h6 => b_X12_sign_20 l0 l1 n (l2 + (-1)) h6)
set_option maxHeartbeats 4000000 in
set_option maxRecDepth 20000 in
theorem eb_X12_sign_20 {xs : Nat → Int32} {N d : Nat} {nx : ci_N} {l0 : Nat} {l1 : Int32} : ∀ (n : Nat) (l2 : Int32) (h : ci_H) (r : Int32 × ci_H), b_X12_sign_20 l0 l1 n l2 h = some r → Ev xs N d 178 20 [.ref l0, .int l1, .int l2] [] h nx (oI r nx) := by
  intro n
  induction n with
  | zero => intro l2 h r H; unfold b_X12_sign_20 at H; cases H
  | succ n ih =>
    intro l2 h r H
    unfold b_X12_sign_20 at H
    refine ev_go hc_X12_sign (k := 1) (pc' := 21) (L' := [.ref l0, .int l1, .int l2]) (S' := [.int l2]) rfl ?_
    by_cases c1 : l2 < 0
    · rw [if_pos c1] at H
      refine ev_bt hc_X12_sign (fe_X12_sign (pc := 21) rfl) rfl c1 ?_
      refine ev_go hc_X12_sign (k := 1) (pc' := 54) (L' := [.ref l0, .int l1, .int l2]) (S' := [.ref l0]) rfl ?_
      obtain ⟨v2, ev2, H⟩ := Option.bind_eq_some_iff.mp H
      refine ev_4 hc_X12_sign (fe_X12_sign (pc := 54) rfl) (gI_gf ev2) ?_
      obtain rfl := Option.some.inj H
      exact ev_8 hc_X12_sign (fe_X12_sign (pc := 57) rfl) rfl
    · rw [if_neg c1] at H
      refine ev_bf hc_X12_sign (fe_X12_sign (pc := 21) rfl) rfl c1 ?_
      refine ev_go hc_X12_sign (k := 1) (pc' := 25) (L' := [.ref l0, .int l1, .int l2]) (S' := [.ref l0]) rfl ?_
      obtain ⟨v3, ev3, H⟩ := Option.bind_eq_some_iff.mp H
      refine ev_4 hc_X12_sign (fe_X12_sign (pc := 25) rfl) (gR_gf ev3) ?_
      refine ev_go hc_X12_sign (k := 2) (pc' := 30) (L' := [.ref l0, .int l1, .int l2]) (S' := [.ref l0, .ref l0, .ref v3]) rfl ?_
      obtain ⟨v4, ev4, H⟩ := Option.bind_eq_some_iff.mp H
      refine ev_4 hc_X12_sign (fe_X12_sign (pc := 30) rfl) (gI_gf ev4) ?_
      refine ev_go hc_X12_sign (k := 3) (pc' := 36) (L' := [.ref l0, .int l1, .int l2]) (S' := [.int (v4 + 1), .ref l0, .int v4, .ref v3]) rfl ?_
      obtain ⟨h5, eh5, H⟩ := Option.bind_eq_some_iff.mp H
      refine ev_5 hc_X12_sign (fe_X12_sign (pc := 36) rfl) (pF_pf eh5) ?_
      refine ev_go hc_X12_sign (k := 6) (pc' := 46) (L' := [.ref l0, .int l1, .int l2]) (S' := [.int ((l1 >>> ((8 * l2) &&& 31) : Int32).toInt8.toInt32), .int v4, .ref v3]) rfl ?_
      obtain ⟨h6, eh6, H⟩ := Option.bind_eq_some_iff.mp H
      refine ev_5 hc_X12_sign (fe_X12_sign (pc := 46) rfl) (wB_as eh6) ?_
      refine ev_go hc_X12_sign (k := 2) (pc' := 20) (L' := [.ref l0, .int l1, .int (l2 + (-1))]) (S' := []) rfl ?_
      exact Ev.weak (ci_le_c (Or.inr rfl) (ci_le_c (Or.inr rfl) (ci_le_c (Or.inr rfl) (ci_le_n)))) (ih _ _ _ H)
def F_X12_sign (a0 : Nat) (a1 : Int32) (h : ci_H) : Option (Int32 × ci_H) := if kO h a0 = some 12 then ((pF h a0 12 11 (.int 0)).bind fun h1 => (gI h1 a0 12 8).bind fun v2 => if (v2 + 4) ≤ 80 then (b_X12_sign_20 a0 a1 bigN 3 h1) else (some ((-1), h1))) else none
theorem K_X12_sign {a0 : Nat} {a1 : Int32} {h : ci_H} {r : Int32 × ci_H} (H : F_X12_sign a0 a1 h = some r) : kO h a0 = some 12 := by
  unfold F_X12_sign at H
  by_cases c : kO h a0 = some 12
  · exact c
  · rw [if_neg c] at H; cases H
set_option maxHeartbeats 4000000 in
set_option maxRecDepth 20000 in
theorem E_X12_sign {xs : Nat → Int32} {N d : Nat} {nx : ci_N} {a0 : Nat} {a1 : Int32} {h : ci_H} {r : Int32 × ci_H} (H : F_X12_sign a0 a1 h = some r) (hd : 0 ≤ d) : Ev xs N d 178 0 (ci_entry [.ref a0, .int a1] 3) [] h nx (oI r nx) := by
  unfold F_X12_sign at H
  by_cases ck : kO h a0 = some 12
  · rw [if_pos ck] at H
    show Ev xs N d 178 0 [.ref a0, .int a1, ci_junk] [] h nx _
    refine ev_go hc_X12_sign (k := 2) (pc' := 2) (L' := [.ref a0, .int a1, ci_junk]) (S' := [.int 0, .ref a0]) rfl ?_
    obtain ⟨h1, eh1, H⟩ := Option.bind_eq_some_iff.mp H
    refine ev_5 hc_X12_sign (fe_X12_sign (pc := 2) rfl) (pF_pf eh1) ?_
    refine ev_go hc_X12_sign (k := 1) (pc' := 6) (L' := [.ref a0, .int a1, ci_junk]) (S' := [.ref a0]) rfl ?_
    obtain ⟨v2, ev2, H⟩ := Option.bind_eq_some_iff.mp H
    refine ev_4 hc_X12_sign (fe_X12_sign (pc := 6) rfl) (gI_gf ev2) ?_
    refine ev_go hc_X12_sign (k := 3) (pc' := 13) (L' := [.ref a0, .int a1, ci_junk]) (S' := [.int 80, .int (v2 + 4)]) rfl ?_
    by_cases c3 : (v2 + 4) ≤ 80
    · rw [if_pos c3] at H
      refine ev_bt hc_X12_sign (fe_X12_sign (pc := 13) rfl) rfl c3 ?_
      refine ev_go hc_X12_sign (k := 2) (pc' := 20) (L' := [.ref a0, .int a1, .int 3]) (S' := []) rfl ?_
      exact Ev.weak (ci_le_c (Or.inr rfl) (ci_le_c (Or.inr rfl) (ci_le_c (Or.inr rfl) (ci_le_n)))) (eb_X12_sign_20 bigN _ _ _ H)
    · rw [if_neg c3] at H
      refine ev_bf hc_X12_sign (fe_X12_sign (pc := 13) rfl) rfl c3 ?_
      refine ev_go hc_X12_sign (k := 1) (pc' := 17) (L' := [.ref a0, .int a1, ci_junk]) (S' := [.int ((-1))]) rfl ?_
      obtain rfl := Option.some.inj H
      exact ev_8 hc_X12_sign (fe_X12_sign (pc := 17) rfl) rfl
  · rw [if_neg ck] at H; cases H
theorem hc_X12_end : ci_code (ci_Ms 179) = k_X12_end := rfl
theorem fe_X12_end {pc : Nat} {w : Option ci_I} (h : (k_X12_end)[pc]? = some w) : (k_X12_end)[pc]? = some w := h
def F_X12_end (a0 : Nat) (a1 : Int32) (h : ci_H) : Option (Int32 × ci_H) := if kO h a0 = some 12 then ((pF h a0 12 11 (.int 0)).bind fun h1 => (gI h1 a0 12 8).bind fun v2 => (F_X12_in a1 0 v2 h1).bind fun q3 => if q3.1 = 0 then (some (0, q3.2)) else ((pF q3.2 a0 12 8 (.int a1)).bind fun h5 => some (1, h5))) else none
theorem K_X12_end {a0 : Nat} {a1 : Int32} {h : ci_H} {r : Int32 × ci_H} (H : F_X12_end a0 a1 h = some r) : kO h a0 = some 12 := by
  unfold F_X12_end at H
  by_cases c : kO h a0 = some 12
  · exact c
  · rw [if_neg c] at H; cases H
set_option maxHeartbeats 4000000 in
set_option maxRecDepth 20000 in
theorem E_X12_end {xs : Nat → Int32} {N d : Nat} {nx : ci_N} {a0 : Nat} {a1 : Int32} {h : ci_H} {r : Int32 × ci_H} (H : F_X12_end a0 a1 h = some r) (hd : 1 ≤ d) : Ev xs N d 179 0 (ci_entry [.ref a0, .int a1] 2) [] h nx (oI r nx) := by
  obtain ⟨d, rfl⟩ : ∃ d2, d = d2 + 1 := ⟨d - 1, by omega⟩
  have hd : 0 ≤ d := by omega
  unfold F_X12_end at H
  by_cases ck : kO h a0 = some 12
  · rw [if_pos ck] at H
    show Ev xs N (d + 1) 179 0 [.ref a0, .int a1] [] h nx _
    refine ev_go hc_X12_end (k := 2) (pc' := 2) (L' := [.ref a0, .int a1]) (S' := [.int 0, .ref a0]) rfl ?_
    obtain ⟨h1, eh1, H⟩ := Option.bind_eq_some_iff.mp H
    refine ev_5 hc_X12_end (fe_X12_end (pc := 2) rfl) (pF_pf eh1) ?_
    refine ev_go hc_X12_end (k := 3) (pc' := 8) (L' := [.ref a0, .int a1]) (S' := [.ref a0, .int 0, .int a1]) rfl ?_
    obtain ⟨v2, ev2, H⟩ := Option.bind_eq_some_iff.mp H
    refine ev_4 hc_X12_end (fe_X12_end (pc := 8) rfl) (gI_gf ev2) ?_
    obtain ⟨q3, eq3, H⟩ := Option.bind_eq_some_iff.mp H
    refine ev_call (vs := [.int a1, .int 0, .int v2]) (rest := []) (q := q_X12_in) hc_X12_end (Or.inl rfl) (fe_X12_end (pc := 11) rfl) ms_170 rfl rfl (Nat.le_of_ble_eq_true rfl) rfl (E_X12_in eq3 (by omega)) rfl ?_
    show Ev xs N (d + 1) 179 14 [.ref a0, .int a1] [.int q3.1] q3.2 nx _
    by_cases c4 : q3.1 = 0
    · rw [if_pos c4] at H
      refine ev_bt hc_X12_end (fe_X12_end (pc := 14) rfl) rfl c4 ?_
      refine ev_go hc_X12_end (k := 1) (pc' := 18) (L' := [.ref a0, .int a1]) (S' := [.int 0]) rfl ?_
      obtain rfl := Option.some.inj H
      exact ev_8z hc_X12_end (fe_X12_end (pc := 18) rfl) rfl (Or.inl rfl)
    · rw [if_neg c4] at H
      refine ev_bf hc_X12_end (fe_X12_end (pc := 14) rfl) rfl c4 ?_
      refine ev_go hc_X12_end (k := 2) (pc' := 21) (L' := [.ref a0, .int a1]) (S' := [.int a1, .ref a0]) rfl ?_
      obtain ⟨h5, eh5, H⟩ := Option.bind_eq_some_iff.mp H
      refine ev_5 hc_X12_end (fe_X12_end (pc := 21) rfl) (pF_pf eh5) ?_
      refine ev_go hc_X12_end (k := 1) (pc' := 25) (L' := [.ref a0, .int a1]) (S' := [.int 1]) rfl ?_
      obtain rfl := Option.some.inj H
      exact ev_8z hc_X12_end (fe_X12_end (pc := 25) rfl) rfl (Or.inr rfl)
  · rw [if_neg ck] at H; cases H
theorem hc_X12_begin : ci_code (ci_Ms 180) = k_X12_begin := rfl
theorem fe_X12_begin {pc : Nat} {w : Option ci_I} (h : (k_X12_begin)[pc]? = some w) : (k_X12_begin)[pc]? = some w := h
def F_X12_begin (a0 : Nat) (a1 : Nat) (a2 : Int32) (a3 : Int32) (h : ci_H) : Option (ci_H) := if kO h a0 = some 12 then ((pF h a0 12 12 (.ref a1)).bind fun h1 => (pF h1 a0 12 13 (.int a2)).bind fun h2 => (pF h2 a0 12 14 (.int a3)).bind fun h3 => (pF h3 a0 12 15 (.int 0)).bind fun h4 => (pF h4 a0 12 16 (.int ((-1)))).bind fun h5 => some h5) else none
theorem K_X12_begin {a0 : Nat} {a1 : Nat} {a2 : Int32} {a3 : Int32} {h : ci_H} {r : ci_H} (H : F_X12_begin a0 a1 a2 a3 h = some r) : kO h a0 = some 12 := by
  unfold F_X12_begin at H
  by_cases c : kO h a0 = some 12
  · exact c
  · rw [if_neg c] at H; cases H
set_option maxHeartbeats 4000000 in
set_option maxRecDepth 20000 in
theorem E_X12_begin {xs : Nat → Int32} {N d : Nat} {nx : ci_N} {a0 : Nat} {a1 : Nat} {a2 : Int32} {a3 : Int32} {h : ci_H} {r : ci_H} (H : F_X12_begin a0 a1 a2 a3 h = some r) (hd : 0 ≤ d) : Ev xs N d 180 0 (ci_entry [.ref a0, .ref a1, .int a2, .int a3] 4) [] h nx (oV r nx) := by
  unfold F_X12_begin at H
  by_cases ck : kO h a0 = some 12
  · rw [if_pos ck] at H
    show Ev xs N d 180 0 [.ref a0, .ref a1, .int a2, .int a3] [] h nx _
    refine ev_go hc_X12_begin (k := 2) (pc' := 2) (L' := [.ref a0, .ref a1, .int a2, .int a3]) (S' := [.ref a1, .ref a0]) rfl ?_
    obtain ⟨h1, eh1, H⟩ := Option.bind_eq_some_iff.mp H
    refine ev_5 hc_X12_begin (fe_X12_begin (pc := 2) rfl) (pF_pf eh1) ?_
    refine ev_go hc_X12_begin (k := 2) (pc' := 7) (L' := [.ref a0, .ref a1, .int a2, .int a3]) (S' := [.int a2, .ref a0]) rfl ?_
    obtain ⟨h2, eh2, H⟩ := Option.bind_eq_some_iff.mp H
    refine ev_5 hc_X12_begin (fe_X12_begin (pc := 7) rfl) (pF_pf eh2) ?_
    refine ev_go hc_X12_begin (k := 2) (pc' := 12) (L' := [.ref a0, .ref a1, .int a2, .int a3]) (S' := [.int a3, .ref a0]) rfl ?_
    obtain ⟨h3, eh3, H⟩ := Option.bind_eq_some_iff.mp H
    refine ev_5 hc_X12_begin (fe_X12_begin (pc := 12) rfl) (pF_pf eh3) ?_
    refine ev_go hc_X12_begin (k := 2) (pc' := 17) (L' := [.ref a0, .ref a1, .int a2, .int a3]) (S' := [.int 0, .ref a0]) rfl ?_
    obtain ⟨h4, eh4, H⟩ := Option.bind_eq_some_iff.mp H
    refine ev_5 hc_X12_begin (fe_X12_begin (pc := 17) rfl) (pF_pf eh4) ?_
    refine ev_go hc_X12_begin (k := 2) (pc' := 22) (L' := [.ref a0, .ref a1, .int a2, .int a3]) (S' := [.int ((-1)), .ref a0]) rfl ?_
    obtain ⟨h5, eh5, H⟩ := Option.bind_eq_some_iff.mp H
    refine ev_5 hc_X12_begin (fe_X12_begin (pc := 22) rfl) (pF_pf eh5) ?_
    obtain rfl := Option.some.inj H
    exact ev_8 hc_X12_begin (fe_X12_begin (pc := 25) rfl) rfl
  · rw [if_neg ck] at H; cases H
theorem hc_X12_beginText : ci_code (ci_Ms 181) = k_X12_beginText := rfl
theorem fe_X12_beginText {pc : Nat} {w : Option ci_I} (h : (k_X12_beginText)[pc]? = some w) : (k_X12_beginText)[pc]? = some w := h
def F_X12_beginText (a0 : Nat) (a1 : Int32) (h : ci_H) : Option (ci_H) := if kO h a0 = some 12 then ((gR h a0 12 7).bind fun v1 => (gI h a0 12 8).bind fun v2 => (F_X12_begin a0 v1 v2 a1 h).bind fun h3 => (pF h3 a0 12 8 (.int 0)).bind fun h4 => some h4) else none
theorem K_X12_beginText {a0 : Nat} {a1 : Int32} {h : ci_H} {r : ci_H} (H : F_X12_beginText a0 a1 h = some r) : kO h a0 = some 12 := by
  unfold F_X12_beginText at H
  by_cases c : kO h a0 = some 12
  · exact c
  · rw [if_neg c] at H; cases H
set_option maxHeartbeats 4000000 in
set_option maxRecDepth 20000 in
theorem E_X12_beginText {xs : Nat → Int32} {N d : Nat} {nx : ci_N} {a0 : Nat} {a1 : Int32} {h : ci_H} {r : ci_H} (H : F_X12_beginText a0 a1 h = some r) (hd : 1 ≤ d) : Ev xs N d 181 0 (ci_entry [.ref a0, .int a1] 2) [] h nx (oV r nx) := by
  obtain ⟨d, rfl⟩ : ∃ d2, d = d2 + 1 := ⟨d - 1, by omega⟩
  have hd : 0 ≤ d := by omega
  unfold F_X12_beginText at H
  by_cases ck : kO h a0 = some 12
  · rw [if_pos ck] at H
    show Ev xs N (d + 1) 181 0 [.ref a0, .int a1] [] h nx _
    refine ev_go hc_X12_beginText (k := 2) (pc' := 2) (L' := [.ref a0, .int a1]) (S' := [.ref a0, .ref a0]) rfl ?_
    obtain ⟨v1, ev1, H⟩ := Option.bind_eq_some_iff.mp H
    refine ev_4 hc_X12_beginText (fe_X12_beginText (pc := 2) rfl) (gR_gf ev1) ?_
    refine ev_go hc_X12_beginText (k := 1) (pc' := 6) (L' := [.ref a0, .int a1]) (S' := [.ref a0, .ref v1, .ref a0]) rfl ?_
    obtain ⟨v2, ev2, H⟩ := Option.bind_eq_some_iff.mp H
    refine ev_4 hc_X12_beginText (fe_X12_beginText (pc := 6) rfl) (gI_gf ev2) ?_
    refine ev_go hc_X12_beginText (k := 1) (pc' := 10) (L' := [.ref a0, .int a1]) (S' := [.int a1, .int v2, .ref v1, .ref a0]) rfl ?_
    obtain ⟨h3, eh3, H⟩ := Option.bind_eq_some_iff.mp H
    refine ev_call (vs := [.ref a0, .ref v1, .int v2, .int a1]) (rest := []) (q := q_X12_begin) hc_X12_beginText (Or.inr rfl) (fe_X12_beginText (pc := 10) rfl) ms_180 rfl rfl (Nat.le_of_ble_eq_true rfl) (kO_recv (K_X12_begin eh3)) (E_X12_begin eh3 (by omega)) rfl ?_
    show Ev xs N (d + 1) 181 13 [.ref a0, .int a1] [] h3 nx _
    refine ev_go hc_X12_beginText (k := 2) (pc' := 15) (L' := [.ref a0, .int a1]) (S' := [.int 0, .ref a0]) rfl ?_
    obtain ⟨h4, eh4, H⟩ := Option.bind_eq_some_iff.mp H
    refine ev_5 hc_X12_beginText (fe_X12_beginText (pc := 15) rfl) (pF_pf eh4) ?_
    obtain rfl := Option.some.inj H
    exact ev_8 hc_X12_beginText (fe_X12_beginText (pc := 18) rfl) rfl
  · rw [if_neg ck] at H; cases H
theorem hc_X12_here : ci_code (ci_Ms 182) = k_X12_here := rfl
theorem fe_X12_here {pc : Nat} {w : Option ci_I} (h : (k_X12_here)[pc]? = some w) : (k_X12_here)[pc]? = some w := h
def F_X12_here (a0 : Nat) (h : ci_H) : Option (Int32 × ci_H) := if kO h a0 = some 12 then ((gI h a0 12 15).bind fun v1 => (gI h a0 12 13).bind fun v2 => if v2 ≤ v1 then (some ((-1), h)) else ((gI h a0 12 15).bind fun v4 => (gI h a0 12 14).bind fun v5 => if v5 ≤ v4 then (some ((-1), h)) else ((gR h a0 12 12).bind fun v7 => (gI h a0 12 15).bind fun v8 => (rB h v7 v8).bind fun v9 => some (v9 &&& 255, h)))) else none
theorem K_X12_here {a0 : Nat} {h : ci_H} {r : Int32 × ci_H} (H : F_X12_here a0 h = some r) : kO h a0 = some 12 := by
  unfold F_X12_here at H
  by_cases c : kO h a0 = some 12
  · exact c
  · rw [if_neg c] at H; cases H
set_option maxHeartbeats 4000000 in
set_option maxRecDepth 20000 in
theorem E_X12_here {xs : Nat → Int32} {N d : Nat} {nx : ci_N} {a0 : Nat} {h : ci_H} {r : Int32 × ci_H} (H : F_X12_here a0 h = some r) (hd : 0 ≤ d) : Ev xs N d 182 0 (ci_entry [.ref a0] 1) [] h nx (oI r nx) := by
  unfold F_X12_here at H
  by_cases ck : kO h a0 = some 12
  · rw [if_pos ck] at H
    show Ev xs N d 182 0 [.ref a0] [] h nx _
    refine ev_go hc_X12_here (k := 1) (pc' := 1) (L' := [.ref a0]) (S' := [.ref a0]) rfl ?_
    obtain ⟨v1, ev1, H⟩ := Option.bind_eq_some_iff.mp H
    refine ev_4 hc_X12_here (fe_X12_here (pc := 1) rfl) (gI_gf ev1) ?_
    refine ev_go hc_X12_here (k := 1) (pc' := 5) (L' := [.ref a0]) (S' := [.ref a0, .int v1]) rfl ?_
    obtain ⟨v2, ev2, H⟩ := Option.bind_eq_some_iff.mp H
    refine ev_4 hc_X12_here (fe_X12_here (pc := 5) rfl) (gI_gf ev2) ?_
    by_cases c3 : v2 ≤ v1
    · rw [if_pos c3] at H
      refine ev_bt hc_X12_here (fe_X12_here (pc := 8) rfl) rfl c3 ?_
      refine ev_go hc_X12_here (k := 1) (pc' := 39) (L' := [.ref a0]) (S' := [.int ((-1))]) rfl ?_
      obtain rfl := Option.some.inj H
      exact ev_8 hc_X12_here (fe_X12_here (pc := 39) rfl) rfl
    · rw [if_neg c3] at H
      refine ev_bf hc_X12_here (fe_X12_here (pc := 8) rfl) rfl c3 ?_
      refine ev_go hc_X12_here (k := 1) (pc' := 12) (L' := [.ref a0]) (S' := [.ref a0]) rfl ?_
      obtain ⟨v4, ev4, H⟩ := Option.bind_eq_some_iff.mp H
      refine ev_4 hc_X12_here (fe_X12_here (pc := 12) rfl) (gI_gf ev4) ?_
      refine ev_go hc_X12_here (k := 1) (pc' := 16) (L' := [.ref a0]) (S' := [.ref a0, .int v4]) rfl ?_
      obtain ⟨v5, ev5, H⟩ := Option.bind_eq_some_iff.mp H
      refine ev_4 hc_X12_here (fe_X12_here (pc := 16) rfl) (gI_gf ev5) ?_
      by_cases c6 : v5 ≤ v4
      · rw [if_pos c6] at H
        refine ev_bt hc_X12_here (fe_X12_here (pc := 19) rfl) rfl c6 ?_
        refine ev_go hc_X12_here (k := 1) (pc' := 39) (L' := [.ref a0]) (S' := [.int ((-1))]) rfl ?_
        obtain rfl := Option.some.inj H
        exact ev_8 hc_X12_here (fe_X12_here (pc := 39) rfl) rfl
      · rw [if_neg c6] at H
        refine ev_bf hc_X12_here (fe_X12_here (pc := 19) rfl) rfl c6 ?_
        refine ev_go hc_X12_here (k := 1) (pc' := 23) (L' := [.ref a0]) (S' := [.ref a0]) rfl ?_
        obtain ⟨v7, ev7, H⟩ := Option.bind_eq_some_iff.mp H
        refine ev_4 hc_X12_here (fe_X12_here (pc := 23) rfl) (gR_gf ev7) ?_
        refine ev_go hc_X12_here (k := 1) (pc' := 27) (L' := [.ref a0]) (S' := [.ref a0, .ref v7]) rfl ?_
        obtain ⟨v8, ev8, H⟩ := Option.bind_eq_some_iff.mp H
        refine ev_4 hc_X12_here (fe_X12_here (pc := 27) rfl) (gI_gf ev8) ?_
        obtain ⟨v9, ev9, H⟩ := Option.bind_eq_some_iff.mp H
        refine ev_4 hc_X12_here (fe_X12_here (pc := 30) rfl) (rB_al ev9) ?_
        refine ev_go hc_X12_here (k := 3) (pc' := 39) (L' := [.ref a0]) (S' := [.int (v9 &&& 255)]) rfl ?_
        obtain rfl := Option.some.inj H
        exact ev_8 hc_X12_here (fe_X12_here (pc := 39) rfl) rfl
  · rw [if_neg ck] at H; cases H
theorem hc_X12_fine : ci_code (ci_Ms 183) = k_X12_fine := rfl
theorem fe_X12_fine {pc : Nat} {w : Option ci_I} (h : (k_X12_fine)[pc]? = some w) : (k_X12_fine)[pc]? = some w := h
def F_X12_fine (a0 : Nat) (h : ci_H) : Option (Int32 × ci_H) := if kO h a0 = some 12 then ((gI h a0 12 16).bind fun v1 => if v1 = ((-1)) then (some (1, h)) else (some (0, h))) else none
theorem K_X12_fine {a0 : Nat} {h : ci_H} {r : Int32 × ci_H} (H : F_X12_fine a0 h = some r) : kO h a0 = some 12 := by
  unfold F_X12_fine at H
  by_cases c : kO h a0 = some 12
  · exact c
  · rw [if_neg c] at H; cases H
set_option maxHeartbeats 4000000 in
set_option maxRecDepth 20000 in
theorem E_X12_fine {xs : Nat → Int32} {N d : Nat} {nx : ci_N} {a0 : Nat} {h : ci_H} {r : Int32 × ci_H} (H : F_X12_fine a0 h = some r) (hd : 0 ≤ d) : Ev xs N d 183 0 (ci_entry [.ref a0] 1) [] h nx (oI r nx) := by
  unfold F_X12_fine at H
  by_cases ck : kO h a0 = some 12
  · rw [if_pos ck] at H
    show Ev xs N d 183 0 [.ref a0] [] h nx _
    refine ev_go hc_X12_fine (k := 1) (pc' := 1) (L' := [.ref a0]) (S' := [.ref a0]) rfl ?_
    obtain ⟨v1, ev1, H⟩ := Option.bind_eq_some_iff.mp H
    refine ev_4 hc_X12_fine (fe_X12_fine (pc := 1) rfl) (gI_gf ev1) ?_
    refine ev_go hc_X12_fine (k := 1) (pc' := 5) (L' := [.ref a0]) (S' := [.int ((-1)), .int v1]) rfl ?_
    by_cases c2 : v1 = ((-1))
    · rw [if_pos c2] at H
      refine ev_bt hc_X12_fine (fe_X12_fine (pc := 5) rfl) rfl c2 ?_
      refine ev_go hc_X12_fine (k := 2) (pc' := 13) (L' := [.ref a0]) (S' := [.int 1]) rfl ?_
      obtain rfl := Option.some.inj H
      exact ev_8z hc_X12_fine (fe_X12_fine (pc := 13) rfl) rfl (Or.inr rfl)
    · rw [if_neg c2] at H
      refine ev_bf hc_X12_fine (fe_X12_fine (pc := 5) rfl) rfl c2 ?_
      refine ev_go hc_X12_fine (k := 1) (pc' := 13) (L' := [.ref a0]) (S' := [.int 0]) rfl ?_
      obtain rfl := Option.some.inj H
      exact ev_8z hc_X12_fine (fe_X12_fine (pc := 13) rfl) rfl (Or.inl rfl)
  · rw [if_neg ck] at H; cases H
theorem hc_X12_fault : ci_code (ci_Ms 184) = k_X12_fault := rfl
theorem fe_X12_fault {pc : Nat} {w : Option ci_I} (h : (k_X12_fault)[pc]? = some w) : (k_X12_fault)[pc]? = some w := h
def F_X12_fault (a0 : Nat) (a1 : Int32) (h : ci_H) : Option (ci_H) := if kO h a0 = some 12 then ((F_X12_fine a0 h).bind fun q1 => if q1.1 = 0 then (some q1.2) else ((pF q1.2 a0 12 16 (.int a1)).bind fun h3 => some h3)) else none
theorem K_X12_fault {a0 : Nat} {a1 : Int32} {h : ci_H} {r : ci_H} (H : F_X12_fault a0 a1 h = some r) : kO h a0 = some 12 := by
  unfold F_X12_fault at H
  by_cases c : kO h a0 = some 12
  · exact c
  · rw [if_neg c] at H; cases H
set_option maxHeartbeats 4000000 in
set_option maxRecDepth 20000 in
theorem E_X12_fault {xs : Nat → Int32} {N d : Nat} {nx : ci_N} {a0 : Nat} {a1 : Int32} {h : ci_H} {r : ci_H} (H : F_X12_fault a0 a1 h = some r) (hd : 1 ≤ d) : Ev xs N d 184 0 (ci_entry [.ref a0, .int a1] 2) [] h nx (oV r nx) := by
  obtain ⟨d, rfl⟩ : ∃ d2, d = d2 + 1 := ⟨d - 1, by omega⟩
  have hd : 0 ≤ d := by omega
  unfold F_X12_fault at H
  by_cases ck : kO h a0 = some 12
  · rw [if_pos ck] at H
    show Ev xs N (d + 1) 184 0 [.ref a0, .int a1] [] h nx _
    refine ev_go hc_X12_fault (k := 1) (pc' := 1) (L' := [.ref a0, .int a1]) (S' := [.ref a0]) rfl ?_
    obtain ⟨q1, eq1, H⟩ := Option.bind_eq_some_iff.mp H
    refine ev_call (vs := [.ref a0]) (rest := []) (q := q_X12_fine) hc_X12_fault (Or.inr rfl) (fe_X12_fault (pc := 1) rfl) ms_183 rfl rfl (Nat.le_of_ble_eq_true rfl) (kO_recv (K_X12_fine eq1)) (E_X12_fine eq1 (by omega)) rfl ?_
    show Ev xs N (d + 1) 184 4 [.ref a0, .int a1] [.int q1.1] q1.2 nx _
    by_cases c2 : q1.1 = 0
    · rw [if_pos c2] at H
      refine ev_bt hc_X12_fault (fe_X12_fault (pc := 4) rfl) rfl c2 ?_
      obtain rfl := Option.some.inj H
      exact ev_8 hc_X12_fault (fe_X12_fault (pc := 12) rfl) rfl
    · rw [if_neg c2] at H
      refine ev_bf hc_X12_fault (fe_X12_fault (pc := 4) rfl) rfl c2 ?_
      refine ev_go hc_X12_fault (k := 2) (pc' := 9) (L' := [.ref a0, .int a1]) (S' := [.int a1, .ref a0]) rfl ?_
      obtain ⟨h3, eh3, H⟩ := Option.bind_eq_some_iff.mp H
      refine ev_5 hc_X12_fault (fe_X12_fault (pc := 9) rfl) (pF_pf eh3) ?_
      obtain rfl := Option.some.inj H
      exact ev_8 hc_X12_fault (fe_X12_fault (pc := 12) rfl) rfl
  · rw [if_neg ck] at H; cases H
