theorem hc_J6_bitCount_0f7a4 : ci_code (ci_Ms 285) = k_J6_bitCount_0f7a4 := rfl
theorem fe_J6_bitCount_0f7a4 {pc : Nat} {w : Option ci_I} (h : (k_J6_bitCount_0f7a4)[pc]? = some w) : (k_J6_bitCount_0f7a4)[pc]? = some w := h
def F_J6_bitCount_0f7a4 (a0 : Int32) (h : ci_H) : Option (Int32 × ci_H) := some ((((((((a0 - ((((a0 : Int32).toUInt32 >>> ((1 : Int32).toUInt32 &&& Int32.toUInt32 31)).toInt32) &&& 1431655765)) &&& 858993459) + ((((a0 - ((((a0 : Int32).toUInt32 >>> ((1 : Int32).toUInt32 &&& Int32.toUInt32 31)).toInt32) &&& 1431655765) : Int32).toUInt32 >>> ((2 : Int32).toUInt32 &&& Int32.toUInt32 31)).toInt32) &&& 858993459)) + (((((a0 - ((((a0 : Int32).toUInt32 >>> ((1 : Int32).toUInt32 &&& Int32.toUInt32 31)).toInt32) &&& 1431655765)) &&& 858993459) + ((((a0 - ((((a0 : Int32).toUInt32 >>> ((1 : Int32).toUInt32 &&& Int32.toUInt32 31)).toInt32) &&& 1431655765) : Int32).toUInt32 >>> ((2 : Int32).toUInt32 &&& Int32.toUInt32 31)).toInt32) &&& 858993459) : Int32).toUInt32 >>> ((4 : Int32).toUInt32 &&& Int32.toUInt32 31)).toInt32)) &&& 252645135) + (((((((a0 - ((((a0 : Int32).toUInt32 >>> ((1 : Int32).toUInt32 &&& Int32.toUInt32 31)).toInt32) &&& 1431655765)) &&& 858993459) + ((((a0 - ((((a0 : Int32).toUInt32 >>> ((1 : Int32).toUInt32 &&& Int32.toUInt32 31)).toInt32) &&& 1431655765) : Int32).toUInt32 >>> ((2 : Int32).toUInt32 &&& Int32.toUInt32 31)).toInt32) &&& 858993459)) + (((((a0 - ((((a0 : Int32).toUInt32 >>> ((1 : Int32).toUInt32 &&& Int32.toUInt32 31)).toInt32) &&& 1431655765)) &&& 858993459) + ((((a0 - ((((a0 : Int32).toUInt32 >>> ((1 : Int32).toUInt32 &&& Int32.toUInt32 31)).toInt32) &&& 1431655765) : Int32).toUInt32 >>> ((2 : Int32).toUInt32 &&& Int32.toUInt32 31)).toInt32) &&& 858993459) : Int32).toUInt32 >>> ((4 : Int32).toUInt32 &&& Int32.toUInt32 31)).toInt32)) &&& 252645135 : Int32).toUInt32 >>> ((8 : Int32).toUInt32 &&& Int32.toUInt32 31)).toInt32)) + ((((((((a0 - ((((a0 : Int32).toUInt32 >>> ((1 : Int32).toUInt32 &&& Int32.toUInt32 31)).toInt32) &&& 1431655765)) &&& 858993459) + ((((a0 - ((((a0 : Int32).toUInt32 >>> ((1 : Int32).toUInt32 &&& Int32.toUInt32 31)).toInt32) &&& 1431655765) : Int32).toUInt32 >>> ((2 : Int32).toUInt32 &&& Int32.toUInt32 31)).toInt32) &&& 858993459)) + (((((a0 - ((((a0 : Int32).toUInt32 >>> ((1 : Int32).toUInt32 &&& Int32.toUInt32 31)).toInt32) &&& 1431655765)) &&& 858993459) + ((((a0 - ((((a0 : Int32).toUInt32 >>> ((1 : Int32).toUInt32 &&& Int32.toUInt32 31)).toInt32) &&& 1431655765) : Int32).toUInt32 >>> ((2 : Int32).toUInt32 &&& Int32.toUInt32 31)).toInt32) &&& 858993459) : Int32).toUInt32 >>> ((4 : Int32).toUInt32 &&& Int32.toUInt32 31)).toInt32)) &&& 252645135) + (((((((a0 - ((((a0 : Int32).toUInt32 >>> ((1 : Int32).toUInt32 &&& Int32.toUInt32 31)).toInt32) &&& 1431655765)) &&& 858993459) + ((((a0 - ((((a0 : Int32).toUInt32 >>> ((1 : Int32).toUInt32 &&& Int32.toUInt32 31)).toInt32) &&& 1431655765) : Int32).toUInt32 >>> ((2 : Int32).toUInt32 &&& Int32.toUInt32 31)).toInt32) &&& 858993459)) + (((((a0 - ((((a0 : Int32).toUInt32 >>> ((1 : Int32).toUInt32 &&& Int32.toUInt32 31)).toInt32) &&& 1431655765)) &&& 858993459) + ((((a0 - ((((a0 : Int32).toUInt32 >>> ((1 : Int32).toUInt32 &&& Int32.toUInt32 31)).toInt32) &&& 1431655765) : Int32).toUInt32 >>> ((2 : Int32).toUInt32 &&& Int32.toUInt32 31)).toInt32) &&& 858993459) : Int32).toUInt32 >>> ((4 : Int32).toUInt32 &&& Int32.toUInt32 31)).toInt32)) &&& 252645135 : Int32).toUInt32 >>> ((8 : Int32).toUInt32 &&& Int32.toUInt32 31)).toInt32) : Int32).toUInt32 >>> ((16 : Int32).toUInt32 &&& Int32.toUInt32 31)).toInt32)) &&& 63, h)
set_option maxHeartbeats 4000000 in
set_option maxRecDepth 20000 in
theorem E_J6_bitCount_0f7a4 {xs : Nat → Int32} {N d : Nat} {nx : ci_N} {a0 : Int32} {h : ci_H} {r : Int32 × ci_H} (H : F_J6_bitCount_0f7a4 a0 h = some r) (hd : 0 ≤ d) : Ev xs N d 285 0 (ci_entry [.int a0] 1) [] h nx (oI r nx) := by
  unfold F_J6_bitCount_0f7a4 at H
  show Ev xs N d 285 0 [.int a0] [] h nx _
  refine ev_go hc_J6_bitCount_0f7a4 (k := 41) (pc' := 52) (L' := [.int (((((((a0 - ((((a0 : Int32).toUInt32 >>> ((1 : Int32).toUInt32 &&& Int32.toUInt32 31)).toInt32) &&& 1431655765)) &&& 858993459) + ((((a0 - ((((a0 : Int32).toUInt32 >>> ((1 : Int32).toUInt32 &&& Int32.toUInt32 31)).toInt32) &&& 1431655765) : Int32).toUInt32 >>> ((2 : Int32).toUInt32 &&& Int32.toUInt32 31)).toInt32) &&& 858993459)) + (((((a0 - ((((a0 : Int32).toUInt32 >>> ((1 : Int32).toUInt32 &&& Int32.toUInt32 31)).toInt32) &&& 1431655765)) &&& 858993459) + ((((a0 - ((((a0 : Int32).toUInt32 >>> ((1 : Int32).toUInt32 &&& Int32.toUInt32 31)).toInt32) &&& 1431655765) : Int32).toUInt32 >>> ((2 : Int32).toUInt32 &&& Int32.toUInt32 31)).toInt32) &&& 858993459) : Int32).toUInt32 >>> ((4 : Int32).toUInt32 &&& Int32.toUInt32 31)).toInt32)) &&& 252645135) + (((((((a0 - ((((a0 : Int32).toUInt32 >>> ((1 : Int32).toUInt32 &&& Int32.toUInt32 31)).toInt32) &&& 1431655765)) &&& 858993459) + ((((a0 - ((((a0 : Int32).toUInt32 >>> ((1 : Int32).toUInt32 &&& Int32.toUInt32 31)).toInt32) &&& 1431655765) : Int32).toUInt32 >>> ((2 : Int32).toUInt32 &&& Int32.toUInt32 31)).toInt32) &&& 858993459)) + (((((a0 - ((((a0 : Int32).toUInt32 >>> ((1 : Int32).toUInt32 &&& Int32.toUInt32 31)).toInt32) &&& 1431655765)) &&& 858993459) + ((((a0 - ((((a0 : Int32).toUInt32 >>> ((1 : Int32).toUInt32 &&& Int32.toUInt32 31)).toInt32) &&& 1431655765) : Int32).toUInt32 >>> ((2 : Int32).toUInt32 &&& Int32.toUInt32 31)).toInt32) &&& 858993459) : Int32).toUInt32 >>> ((4 : Int32).toUInt32 &&& Int32.toUInt32 31)).toInt32)) &&& 252645135 : Int32).toUInt32 >>> ((8 : Int32).toUInt32 &&& Int32.toUInt32 31)).toInt32)) + ((((((((a0 - ((((a0 : Int32).toUInt32 >>> ((1 : Int32).toUInt32 &&& Int32.toUInt32 31)).toInt32) &&& 1431655765)) &&& 858993459) + ((((a0 - ((((a0 : Int32).toUInt32 >>> ((1 : Int32).toUInt32 &&& Int32.toUInt32 31)).toInt32) &&& 1431655765) : Int32).toUInt32 >>> ((2 : Int32).toUInt32 &&& Int32.toUInt32 31)).toInt32) &&& 858993459)) + (((((a0 - ((((a0 : Int32).toUInt32 >>> ((1 : Int32).toUInt32 &&& Int32.toUInt32 31)).toInt32) &&& 1431655765)) &&& 858993459) + ((((a0 - ((((a0 : Int32).toUInt32 >>> ((1 : Int32).toUInt32 &&& Int32.toUInt32 31)).toInt32) &&& 1431655765) : Int32).toUInt32 >>> ((2 : Int32).toUInt32 &&& Int32.toUInt32 31)).toInt32) &&& 858993459) : Int32).toUInt32 >>> ((4 : Int32).toUInt32 &&& Int32.toUInt32 31)).toInt32)) &&& 252645135) + (((((((a0 - ((((a0 : Int32).toUInt32 >>> ((1 : Int32).toUInt32 &&& Int32.toUInt32 31)).toInt32) &&& 1431655765)) &&& 858993459) + ((((a0 - ((((a0 : Int32).toUInt32 >>> ((1 : Int32).toUInt32 &&& Int32.toUInt32 31)).toInt32) &&& 1431655765) : Int32).toUInt32 >>> ((2 : Int32).toUInt32 &&& Int32.toUInt32 31)).toInt32) &&& 858993459)) + (((((a0 - ((((a0 : Int32).toUInt32 >>> ((1 : Int32).toUInt32 &&& Int32.toUInt32 31)).toInt32) &&& 1431655765)) &&& 858993459) + ((((a0 - ((((a0 : Int32).toUInt32 >>> ((1 : Int32).toUInt32 &&& Int32.toUInt32 31)).toInt32) &&& 1431655765) : Int32).toUInt32 >>> ((2 : Int32).toUInt32 &&& Int32.toUInt32 31)).toInt32) &&& 858993459) : Int32).toUInt32 >>> ((4 : Int32).toUInt32 &&& Int32.toUInt32 31)).toInt32)) &&& 252645135 : Int32).toUInt32 >>> ((8 : Int32).toUInt32 &&& Int32.toUInt32 31)).toInt32) : Int32).toUInt32 >>> ((16 : Int32).toUInt32 &&& Int32.toUInt32 31)).toInt32))]) (S' := [.int ((((((((a0 - ((((a0 : Int32).toUInt32 >>> ((1 : Int32).toUInt32 &&& Int32.toUInt32 31)).toInt32) &&& 1431655765)) &&& 858993459) + ((((a0 - ((((a0 : Int32).toUInt32 >>> ((1 : Int32).toUInt32 &&& Int32.toUInt32 31)).toInt32) &&& 1431655765) : Int32).toUInt32 >>> ((2 : Int32).toUInt32 &&& Int32.toUInt32 31)).toInt32) &&& 858993459)) + (((((a0 - ((((a0 : Int32).toUInt32 >>> ((1 : Int32).toUInt32 &&& Int32.toUInt32 31)).toInt32) &&& 1431655765)) &&& 858993459) + ((((a0 - ((((a0 : Int32).toUInt32 >>> ((1 : Int32).toUInt32 &&& Int32.toUInt32 31)).toInt32) &&& 1431655765) : Int32).toUInt32 >>> ((2 : Int32).toUInt32 &&& Int32.toUInt32 31)).toInt32) &&& 858993459) : Int32).toUInt32 >>> ((4 : Int32).toUInt32 &&& Int32.toUInt32 31)).toInt32)) &&& 252645135) + (((((((a0 - ((((a0 : Int32).toUInt32 >>> ((1 : Int32).toUInt32 &&& Int32.toUInt32 31)).toInt32) &&& 1431655765)) &&& 858993459) + ((((a0 - ((((a0 : Int32).toUInt32 >>> ((1 : Int32).toUInt32 &&& Int32.toUInt32 31)).toInt32) &&& 1431655765) : Int32).toUInt32 >>> ((2 : Int32).toUInt32 &&& Int32.toUInt32 31)).toInt32) &&& 858993459)) + (((((a0 - ((((a0 : Int32).toUInt32 >>> ((1 : Int32).toUInt32 &&& Int32.toUInt32 31)).toInt32) &&& 1431655765)) &&& 858993459) + ((((a0 - ((((a0 : Int32).toUInt32 >>> ((1 : Int32).toUInt32 &&& Int32.toUInt32 31)).toInt32) &&& 1431655765) : Int32).toUInt32 >>> ((2 : Int32).toUInt32 &&& Int32.toUInt32 31)).toInt32) &&& 858993459) : Int32).toUInt32 >>> ((4 : Int32).toUInt32 &&& Int32.toUInt32 31)).toInt32)) &&& 252645135 : Int32).toUInt32 >>> ((8 : Int32).toUInt32 &&& Int32.toUInt32 31)).toInt32)) + ((((((((a0 - ((((a0 : Int32).toUInt32 >>> ((1 : Int32).toUInt32 &&& Int32.toUInt32 31)).toInt32) &&& 1431655765)) &&& 858993459) + ((((a0 - ((((a0 : Int32).toUInt32 >>> ((1 : Int32).toUInt32 &&& Int32.toUInt32 31)).toInt32) &&& 1431655765) : Int32).toUInt32 >>> ((2 : Int32).toUInt32 &&& Int32.toUInt32 31)).toInt32) &&& 858993459)) + (((((a0 - ((((a0 : Int32).toUInt32 >>> ((1 : Int32).toUInt32 &&& Int32.toUInt32 31)).toInt32) &&& 1431655765)) &&& 858993459) + ((((a0 - ((((a0 : Int32).toUInt32 >>> ((1 : Int32).toUInt32 &&& Int32.toUInt32 31)).toInt32) &&& 1431655765) : Int32).toUInt32 >>> ((2 : Int32).toUInt32 &&& Int32.toUInt32 31)).toInt32) &&& 858993459) : Int32).toUInt32 >>> ((4 : Int32).toUInt32 &&& Int32.toUInt32 31)).toInt32)) &&& 252645135) + (((((((a0 - ((((a0 : Int32).toUInt32 >>> ((1 : Int32).toUInt32 &&& Int32.toUInt32 31)).toInt32) &&& 1431655765)) &&& 858993459) + ((((a0 - ((((a0 : Int32).toUInt32 >>> ((1 : Int32).toUInt32 &&& Int32.toUInt32 31)).toInt32) &&& 1431655765) : Int32).toUInt32 >>> ((2 : Int32).toUInt32 &&& Int32.toUInt32 31)).toInt32) &&& 858993459)) + (((((a0 - ((((a0 : Int32).toUInt32 >>> ((1 : Int32).toUInt32 &&& Int32.toUInt32 31)).toInt32) &&& 1431655765)) &&& 858993459) + ((((a0 - ((((a0 : Int32).toUInt32 >>> ((1 : Int32).toUInt32 &&& Int32.toUInt32 31)).toInt32) &&& 1431655765) : Int32).toUInt32 >>> ((2 : Int32).toUInt32 &&& Int32.toUInt32 31)).toInt32) &&& 858993459) : Int32).toUInt32 >>> ((4 : Int32).toUInt32 &&& Int32.toUInt32 31)).toInt32)) &&& 252645135 : Int32).toUInt32 >>> ((8 : Int32).toUInt32 &&& Int32.toUInt32 31)).toInt32) : Int32).toUInt32 >>> ((16 : Int32).toUInt32 &&& Int32.toUInt32 31)).toInt32)) &&& 63)]) rfl ?_
  obtain rfl := Option.some.inj H
  exact ev_8 hc_J6_bitCount_0f7a4 (fe_J6_bitCount_0f7a4 (pc := 52) rfl) rfl
theorem hc_J6_numberOfLeadingZeros_0f7a4 : ci_code (ci_Ms 283) = k_J6_numberOfLeadingZeros_0f7a4 := rfl
theorem fe_J6_numberOfLeadingZeros_0f7a4 {pc : Nat} {w : Option ci_I} (h : (k_J6_numberOfLeadingZeros_0f7a4)[pc]? = some w) : (k_J6_numberOfLeadingZeros_0f7a4)[pc]? = some w := h
def b_J6_numberOfLeadingZeros_0f7a4_73 (l0 : Int32) (l1 : Int32)  (h : ci_H) : Option (Int32 × ci_H) := some (l1 - (((l0 : Int32).toUInt32 >>> ((1 : Int32).toUInt32 &&& Int32.toUInt32 31)).toInt32), h)
set_option maxHeartbeats 4000000 in
set_option maxRecDepth 20000 in
theorem eb_J6_numberOfLeadingZeros_0f7a4_73 {xs : Nat → Int32} {N d : Nat} {nx : ci_N} {l0 : Int32} {l1 : Int32} {h : ci_H} {r : Int32 × ci_H} (H : b_J6_numberOfLeadingZeros_0f7a4_73 l0 l1 h = some r) : Ev xs N d 283 73 [.int l0, .int l1] [] h nx (oI r nx) := by
  unfold b_J6_numberOfLeadingZeros_0f7a4_73 at H
  refine ev_go hc_J6_numberOfLeadingZeros_0f7a4 (k := 5) (pc' := 78) (L' := [.int l0, .int l1]) (S' := [.int (l1 - (((l0 : Int32).toUInt32 >>> ((1 : Int32).toUInt32 &&& Int32.toUInt32 31)).toInt32))]) rfl ?_
  obtain rfl := Option.some.inj H
  exact ev_8 hc_J6_numberOfLeadingZeros_0f7a4 (fe_J6_numberOfLeadingZeros_0f7a4 (pc := 78) rfl) rfl
def b_J6_numberOfLeadingZeros_0f7a4_61 (l0 : Int32) (l1 : Int32)  (h : ci_H) : Option (Int32 × ci_H) := if l0 < 4 then (b_J6_numberOfLeadingZeros_0f7a4_73 l0 l1 h) else (b_J6_numberOfLeadingZeros_0f7a4_73 (((l0 : Int32).toUInt32 >>> ((2 : Int32).toUInt32 &&& Int32.toUInt32 31)).toInt32) (l1 + (-2)) h)
set_option maxHeartbeats 4000000 in
set_option maxRecDepth 20000 in
theorem eb_J6_numberOfLeadingZeros_0f7a4_61 {xs : Nat → Int32} {N d : Nat} {nx : ci_N} {l0 : Int32} {l1 : Int32} {h : ci_H} {r : Int32 × ci_H} (H : b_J6_numberOfLeadingZeros_0f7a4_61 l0 l1 h = some r) : Ev xs N d 283 61 [.int l0, .int l1] [] h nx (oI r nx) := by
  unfold b_J6_numberOfLeadingZeros_0f7a4_61 at H
  refine ev_go hc_J6_numberOfLeadingZeros_0f7a4 (k := 2) (pc' := 63) (L' := [.int l0, .int l1]) (S' := [.int 4, .int l0]) rfl ?_
  by_cases c1 : l0 < 4
  · rw [if_pos c1] at H
    refine ev_bt hc_J6_numberOfLeadingZeros_0f7a4 (fe_J6_numberOfLeadingZeros_0f7a4 (pc := 63) rfl) rfl c1 ?_
    exact Ev.weak (ci_le_c (Or.inr rfl) (ci_le_c (Or.inr rfl) (ci_le_n))) (eb_J6_numberOfLeadingZeros_0f7a4_73 H)
  · rw [if_neg c1] at H
    refine ev_bf hc_J6_numberOfLeadingZeros_0f7a4 (fe_J6_numberOfLeadingZeros_0f7a4 (pc := 63) rfl) rfl c1 ?_
    refine ev_go hc_J6_numberOfLeadingZeros_0f7a4 (k := 5) (pc' := 73) (L' := [.int (((l0 : Int32).toUInt32 >>> ((2 : Int32).toUInt32 &&& Int32.toUInt32 31)).toInt32), .int (l1 + (-2))]) (S' := []) rfl ?_
    exact Ev.weak (ci_le_c (Or.inr rfl) (ci_le_c (Or.inr rfl) (ci_le_n))) (eb_J6_numberOfLeadingZeros_0f7a4_73 H)
def b_J6_numberOfLeadingZeros_0f7a4_48 (l0 : Int32) (l1 : Int32)  (h : ci_H) : Option (Int32 × ci_H) := if l0 < 16 then (b_J6_numberOfLeadingZeros_0f7a4_61 l0 l1 h) else (b_J6_numberOfLeadingZeros_0f7a4_61 (((l0 : Int32).toUInt32 >>> ((4 : Int32).toUInt32 &&& Int32.toUInt32 31)).toInt32) (l1 + (-4)) h)
set_option maxHeartbeats 4000000 in
set_option maxRecDepth 20000 in
theorem eb_J6_numberOfLeadingZeros_0f7a4_48 {xs : Nat → Int32} {N d : Nat} {nx : ci_N} {l0 : Int32} {l1 : Int32} {h : ci_H} {r : Int32 × ci_H} (H : b_J6_numberOfLeadingZeros_0f7a4_48 l0 l1 h = some r) : Ev xs N d 283 48 [.int l0, .int l1] [] h nx (oI r nx) := by
  unfold b_J6_numberOfLeadingZeros_0f7a4_48 at H
  refine ev_go hc_J6_numberOfLeadingZeros_0f7a4 (k := 2) (pc' := 51) (L' := [.int l0, .int l1]) (S' := [.int 16, .int l0]) rfl ?_
  by_cases c1 : l0 < 16
  · rw [if_pos c1] at H
    refine ev_bt hc_J6_numberOfLeadingZeros_0f7a4 (fe_J6_numberOfLeadingZeros_0f7a4 (pc := 51) rfl) rfl c1 ?_
    exact Ev.weak (ci_le_c (Or.inr rfl) (ci_le_c (Or.inr rfl) (ci_le_n))) (eb_J6_numberOfLeadingZeros_0f7a4_61 H)
  · rw [if_neg c1] at H
    refine ev_bf hc_J6_numberOfLeadingZeros_0f7a4 (fe_J6_numberOfLeadingZeros_0f7a4 (pc := 51) rfl) rfl c1 ?_
    refine ev_go hc_J6_numberOfLeadingZeros_0f7a4 (k := 5) (pc' := 61) (L' := [.int (((l0 : Int32).toUInt32 >>> ((4 : Int32).toUInt32 &&& Int32.toUInt32 31)).toInt32), .int (l1 + (-4))]) (S' := []) rfl ?_
    exact Ev.weak (ci_le_c (Or.inr rfl) (ci_le_c (Or.inr rfl) (ci_le_n))) (eb_J6_numberOfLeadingZeros_0f7a4_61 H)
def b_J6_numberOfLeadingZeros_0f7a4_33 (l0 : Int32) (l1 : Int32)  (h : ci_H) : Option (Int32 × ci_H) := if l0 < 256 then (b_J6_numberOfLeadingZeros_0f7a4_48 l0 l1 h) else (b_J6_numberOfLeadingZeros_0f7a4_48 (((l0 : Int32).toUInt32 >>> ((8 : Int32).toUInt32 &&& Int32.toUInt32 31)).toInt32) (l1 + (-8)) h)
set_option maxHeartbeats 4000000 in
set_option maxRecDepth 20000 in
theorem eb_J6_numberOfLeadingZeros_0f7a4_33 {xs : Nat → Int32} {N d : Nat} {nx : ci_N} {l0 : Int32} {l1 : Int32} {h : ci_H} {r : Int32 × ci_H} (H : b_J6_numberOfLeadingZeros_0f7a4_33 l0 l1 h = some r) : Ev xs N d 283 33 [.int l0, .int l1] [] h nx (oI r nx) := by
  unfold b_J6_numberOfLeadingZeros_0f7a4_33 at H
  refine ev_go hc_J6_numberOfLeadingZeros_0f7a4 (k := 2) (pc' := 37) (L' := [.int l0, .int l1]) (S' := [.int 256, .int l0]) rfl ?_
  by_cases c1 : l0 < 256
  · rw [if_pos c1] at H
    refine ev_bt hc_J6_numberOfLeadingZeros_0f7a4 (fe_J6_numberOfLeadingZeros_0f7a4 (pc := 37) rfl) rfl c1 ?_
    exact Ev.weak (ci_le_c (Or.inr rfl) (ci_le_c (Or.inr rfl) (ci_le_n))) (eb_J6_numberOfLeadingZeros_0f7a4_48 H)
  · rw [if_neg c1] at H
    refine ev_bf hc_J6_numberOfLeadingZeros_0f7a4 (fe_J6_numberOfLeadingZeros_0f7a4 (pc := 37) rfl) rfl c1 ?_
    refine ev_go hc_J6_numberOfLeadingZeros_0f7a4 (k := 5) (pc' := 48) (L' := [.int (((l0 : Int32).toUInt32 >>> ((8 : Int32).toUInt32 &&& Int32.toUInt32 31)).toInt32), .int (l1 + (-8))]) (S' := []) rfl ?_
    exact Ev.weak (ci_le_c (Or.inr rfl) (ci_le_c (Or.inr rfl) (ci_le_n))) (eb_J6_numberOfLeadingZeros_0f7a4_48 H)
def F_J6_numberOfLeadingZeros_0f7a4 (a0 : Int32) (h : ci_H) : Option (Int32 × ci_H) := if 0 < a0 then (if a0 < 65536 then (b_J6_numberOfLeadingZeros_0f7a4_33 a0 31 h) else (b_J6_numberOfLeadingZeros_0f7a4_33 (((a0 : Int32).toUInt32 >>> ((16 : Int32).toUInt32 &&& Int32.toUInt32 31)).toInt32) (31 + (-16)) h)) else (if a0 = 0 then (some (32, h)) else (some (0, h)))
set_option maxHeartbeats 4000000 in
set_option maxRecDepth 20000 in
theorem E_J6_numberOfLeadingZeros_0f7a4 {xs : Nat → Int32} {N d : Nat} {nx : ci_N} {a0 : Int32} {h : ci_H} {r : Int32 × ci_H} (H : F_J6_numberOfLeadingZeros_0f7a4 a0 h = some r) (hd : 0 ≤ d) : Ev xs N d 283 0 (ci_entry [.int a0] 2) [] h nx (oI r nx) := by
  unfold F_J6_numberOfLeadingZeros_0f7a4 at H
  show Ev xs N d 283 0 [.int a0, ci_junk] [] h nx _
  refine ev_go hc_J6_numberOfLeadingZeros_0f7a4 (k := 1) (pc' := 1) (L' := [.int a0, ci_junk]) (S' := [.int a0]) rfl ?_
  by_cases c1 : 0 < a0
  · rw [if_pos c1] at H
    refine ev_bt hc_J6_numberOfLeadingZeros_0f7a4 (fe_J6_numberOfLeadingZeros_0f7a4 (pc := 1) rfl) rfl c1 ?_
    refine ev_go hc_J6_numberOfLeadingZeros_0f7a4 (k := 4) (pc' := 22) (L' := [.int a0, .int 31]) (S' := [.int 65536, .int a0]) rfl ?_
    by_cases c2 : a0 < 65536
    · rw [if_pos c2] at H
      refine ev_bt hc_J6_numberOfLeadingZeros_0f7a4 (fe_J6_numberOfLeadingZeros_0f7a4 (pc := 22) rfl) rfl c2 ?_
      exact Ev.weak (ci_le_c (Or.inr rfl) (ci_le_c (Or.inr rfl) (ci_le_n))) (eb_J6_numberOfLeadingZeros_0f7a4_33 H)
    · rw [if_neg c2] at H
      refine ev_bf hc_J6_numberOfLeadingZeros_0f7a4 (fe_J6_numberOfLeadingZeros_0f7a4 (pc := 22) rfl) rfl c2 ?_
      refine ev_go hc_J6_numberOfLeadingZeros_0f7a4 (k := 5) (pc' := 33) (L' := [.int (((a0 : Int32).toUInt32 >>> ((16 : Int32).toUInt32 &&& Int32.toUInt32 31)).toInt32), .int (31 + (-16))]) (S' := []) rfl ?_
      exact Ev.weak (ci_le_c (Or.inr rfl) (ci_le_c (Or.inr rfl) (ci_le_n))) (eb_J6_numberOfLeadingZeros_0f7a4_33 H)
  · rw [if_neg c1] at H
    refine ev_bf hc_J6_numberOfLeadingZeros_0f7a4 (fe_J6_numberOfLeadingZeros_0f7a4 (pc := 1) rfl) rfl c1 ?_
    refine ev_go hc_J6_numberOfLeadingZeros_0f7a4 (k := 1) (pc' := 5) (L' := [.int a0, ci_junk]) (S' := [.int a0]) rfl ?_
    by_cases c3 : a0 = 0
    · rw [if_pos c3] at H
      refine ev_bt hc_J6_numberOfLeadingZeros_0f7a4 (fe_J6_numberOfLeadingZeros_0f7a4 (pc := 5) rfl) rfl c3 ?_
      refine ev_go hc_J6_numberOfLeadingZeros_0f7a4 (k := 2) (pc' := 14) (L' := [.int a0, ci_junk]) (S' := [.int 32]) rfl ?_
      obtain rfl := Option.some.inj H
      exact ev_8 hc_J6_numberOfLeadingZeros_0f7a4 (fe_J6_numberOfLeadingZeros_0f7a4 (pc := 14) rfl) rfl
    · rw [if_neg c3] at H
      refine ev_bf hc_J6_numberOfLeadingZeros_0f7a4 (fe_J6_numberOfLeadingZeros_0f7a4 (pc := 5) rfl) rfl c3 ?_
      refine ev_go hc_J6_numberOfLeadingZeros_0f7a4 (k := 1) (pc' := 14) (L' := [.int a0, ci_junk]) (S' := [.int 0]) rfl ?_
      obtain rfl := Option.some.inj H
      exact ev_8 hc_J6_numberOfLeadingZeros_0f7a4 (fe_J6_numberOfLeadingZeros_0f7a4 (pc := 14) rfl) rfl
theorem hc_J6_highestOneBit_0f7a4 : ci_code (ci_Ms 282) = k_J6_highestOneBit_0f7a4 := rfl
theorem fe_J6_highestOneBit_0f7a4 {pc : Nat} {w : Option ci_I} (h : (k_J6_highestOneBit_0f7a4)[pc]? = some w) : (k_J6_highestOneBit_0f7a4)[pc]? = some w := h
def F_J6_highestOneBit_0f7a4 (a0 : Int32) (h : ci_H) : Option (Int32 × ci_H) := (F_J6_numberOfLeadingZeros_0f7a4 a0 h).bind fun q1 => some (a0 &&& ((((-2147483648) : Int32).toUInt32 >>> ((q1.1 : Int32).toUInt32 &&& Int32.toUInt32 31)).toInt32), q1.2)
set_option maxHeartbeats 4000000 in
set_option maxRecDepth 20000 in
theorem E_J6_highestOneBit_0f7a4 {xs : Nat → Int32} {N d : Nat} {nx : ci_N} {a0 : Int32} {h : ci_H} {r : Int32 × ci_H} (H : F_J6_highestOneBit_0f7a4 a0 h = some r) (hd : 1 ≤ d) : Ev xs N d 282 0 (ci_entry [.int a0] 1) [] h nx (oI r nx) := by
  obtain ⟨d, rfl⟩ : ∃ d2, d = d2 + 1 := ⟨d - 1, by omega⟩
  have hd : 0 ≤ d := by omega
  unfold F_J6_highestOneBit_0f7a4 at H
  show Ev xs N (d + 1) 282 0 [.int a0] [] h nx _
  refine ev_go hc_J6_highestOneBit_0f7a4 (k := 3) (pc' := 4) (L' := [.int a0]) (S' := [.int a0, .int ((-2147483648)), .int a0]) rfl ?_
  obtain ⟨q1, eq1, H⟩ := Option.bind_eq_some_iff.mp H
  refine ev_call (vs := [.int a0]) (rest := [.int ((-2147483648)), .int a0]) (q := q_J6_numberOfLeadingZeros_0f7a4) hc_J6_highestOneBit_0f7a4 (Or.inl rfl) (fe_J6_highestOneBit_0f7a4 (pc := 4) rfl) ms_283 rfl rfl (Nat.le_of_ble_eq_true rfl) rfl (E_J6_numberOfLeadingZeros_0f7a4 eq1 (by omega)) rfl ?_
  show Ev xs N (d + 1) 282 7 [.int a0] [.int q1.1, .int ((-2147483648)), .int a0] q1.2 nx _
  refine ev_go hc_J6_highestOneBit_0f7a4 (k := 2) (pc' := 9) (L' := [.int a0]) (S' := [.int (a0 &&& ((((-2147483648) : Int32).toUInt32 >>> ((q1.1 : Int32).toUInt32 &&& Int32.toUInt32 31)).toInt32))]) rfl ?_
  obtain rfl := Option.some.inj H
  exact ev_8 hc_J6_highestOneBit_0f7a4 (fe_J6_highestOneBit_0f7a4 (pc := 9) rfl) rfl
theorem hc_J6_numberOfTrailingZeros_0f7a4 : ci_code (ci_Ms 284) = k_J6_numberOfTrailingZeros_0f7a4 := rfl
theorem fe_J6_numberOfTrailingZeros_0f7a4 {pc : Nat} {w : Option ci_I} (h : (k_J6_numberOfTrailingZeros_0f7a4)[pc]? = some w) : (k_J6_numberOfTrailingZeros_0f7a4)[pc]? = some w := h
def b_J6_numberOfTrailingZeros_0f7a4_74 (l0 : Int32) (l1 : Int32)  (h : ci_H) : Option (Int32 × ci_H) := some (l1 + (((l0 : Int32).toUInt32 >>> ((1 : Int32).toUInt32 &&& Int32.toUInt32 31)).toInt32), h)
set_option maxHeartbeats 4000000 in
set_option maxRecDepth 20000 in
theorem eb_J6_numberOfTrailingZeros_0f7a4_74 {xs : Nat → Int32} {N d : Nat} {nx : ci_N} {l0 : Int32} {l1 : Int32} {h : ci_H} {r : Int32 × ci_H} (H : b_J6_numberOfTrailingZeros_0f7a4_74 l0 l1 h = some r) : Ev xs N d 284 74 [.int l0, .int l1] [] h nx (oI r nx) := by
  unfold b_J6_numberOfTrailingZeros_0f7a4_74 at H
  refine ev_go hc_J6_numberOfTrailingZeros_0f7a4 (k := 5) (pc' := 79) (L' := [.int l0, .int l1]) (S' := [.int (l1 + (((l0 : Int32).toUInt32 >>> ((1 : Int32).toUInt32 &&& Int32.toUInt32 31)).toInt32))]) rfl ?_
  obtain rfl := Option.some.inj H
  exact ev_8 hc_J6_numberOfTrailingZeros_0f7a4 (fe_J6_numberOfTrailingZeros_0f7a4 (pc := 79) rfl) rfl
def b_J6_numberOfTrailingZeros_0f7a4_62 (l0 : Int32) (l1 : Int32)  (h : ci_H) : Option (Int32 × ci_H) := if l0 ≤ 4 then (b_J6_numberOfTrailingZeros_0f7a4_74 l0 l1 h) else (b_J6_numberOfTrailingZeros_0f7a4_74 (((l0 : Int32).toUInt32 >>> ((2 : Int32).toUInt32 &&& Int32.toUInt32 31)).toInt32) (l1 + 2) h)
set_option maxHeartbeats 4000000 in
set_option maxRecDepth 20000 in
theorem eb_J6_numberOfTrailingZeros_0f7a4_62 {xs : Nat → Int32} {N d : Nat} {nx : ci_N} {l0 : Int32} {l1 : Int32} {h : ci_H} {r : Int32 × ci_H} (H : b_J6_numberOfTrailingZeros_0f7a4_62 l0 l1 h = some r) : Ev xs N d 284 62 [.int l0, .int l1] [] h nx (oI r nx) := by
  unfold b_J6_numberOfTrailingZeros_0f7a4_62 at H
  refine ev_go hc_J6_numberOfTrailingZeros_0f7a4 (k := 2) (pc' := 64) (L' := [.int l0, .int l1]) (S' := [.int 4, .int l0]) rfl ?_
  by_cases c1 : l0 ≤ 4
  · rw [if_pos c1] at H
    refine ev_bt hc_J6_numberOfTrailingZeros_0f7a4 (fe_J6_numberOfTrailingZeros_0f7a4 (pc := 64) rfl) rfl c1 ?_
    exact Ev.weak (ci_le_c (Or.inr rfl) (ci_le_c (Or.inr rfl) (ci_le_n))) (eb_J6_numberOfTrailingZeros_0f7a4_74 H)
  · rw [if_neg c1] at H
    refine ev_bf hc_J6_numberOfTrailingZeros_0f7a4 (fe_J6_numberOfTrailingZeros_0f7a4 (pc := 64) rfl) rfl c1 ?_
    refine ev_go hc_J6_numberOfTrailingZeros_0f7a4 (k := 5) (pc' := 74) (L' := [.int (((l0 : Int32).toUInt32 >>> ((2 : Int32).toUInt32 &&& Int32.toUInt32 31)).toInt32), .int (l1 + 2)]) (S' := []) rfl ?_
    exact Ev.weak (ci_le_c (Or.inr rfl) (ci_le_c (Or.inr rfl) (ci_le_n))) (eb_J6_numberOfTrailingZeros_0f7a4_74 H)
def b_J6_numberOfTrailingZeros_0f7a4_49 (l0 : Int32) (l1 : Int32)  (h : ci_H) : Option (Int32 × ci_H) := if l0 ≤ 16 then (b_J6_numberOfTrailingZeros_0f7a4_62 l0 l1 h) else (b_J6_numberOfTrailingZeros_0f7a4_62 (((l0 : Int32).toUInt32 >>> ((4 : Int32).toUInt32 &&& Int32.toUInt32 31)).toInt32) (l1 + 4) h)
set_option maxHeartbeats 4000000 in
set_option maxRecDepth 20000 in
theorem eb_J6_numberOfTrailingZeros_0f7a4_49 {xs : Nat → Int32} {N d : Nat} {nx : ci_N} {l0 : Int32} {l1 : Int32} {h : ci_H} {r : Int32 × ci_H} (H : b_J6_numberOfTrailingZeros_0f7a4_49 l0 l1 h = some r) : Ev xs N d 284 49 [.int l0, .int l1] [] h nx (oI r nx) := by
  unfold b_J6_numberOfTrailingZeros_0f7a4_49 at H
  refine ev_go hc_J6_numberOfTrailingZeros_0f7a4 (k := 2) (pc' := 52) (L' := [.int l0, .int l1]) (S' := [.int 16, .int l0]) rfl ?_
  by_cases c1 : l0 ≤ 16
  · rw [if_pos c1] at H
    refine ev_bt hc_J6_numberOfTrailingZeros_0f7a4 (fe_J6_numberOfTrailingZeros_0f7a4 (pc := 52) rfl) rfl c1 ?_
    exact Ev.weak (ci_le_c (Or.inr rfl) (ci_le_c (Or.inr rfl) (ci_le_n))) (eb_J6_numberOfTrailingZeros_0f7a4_62 H)
  · rw [if_neg c1] at H
    refine ev_bf hc_J6_numberOfTrailingZeros_0f7a4 (fe_J6_numberOfTrailingZeros_0f7a4 (pc := 52) rfl) rfl c1 ?_
    refine ev_go hc_J6_numberOfTrailingZeros_0f7a4 (k := 5) (pc' := 62) (L' := [.int (((l0 : Int32).toUInt32 >>> ((4 : Int32).toUInt32 &&& Int32.toUInt32 31)).toInt32), .int (l1 + 4)]) (S' := []) rfl ?_
    exact Ev.weak (ci_le_c (Or.inr rfl) (ci_le_c (Or.inr rfl) (ci_le_n))) (eb_J6_numberOfTrailingZeros_0f7a4_62 H)
def b_J6_numberOfTrailingZeros_0f7a4_34 (l0 : Int32) (l1 : Int32)  (h : ci_H) : Option (Int32 × ci_H) := if l0 ≤ 256 then (b_J6_numberOfTrailingZeros_0f7a4_49 l0 l1 h) else (b_J6_numberOfTrailingZeros_0f7a4_49 (((l0 : Int32).toUInt32 >>> ((8 : Int32).toUInt32 &&& Int32.toUInt32 31)).toInt32) (l1 + 8) h)
set_option maxHeartbeats 4000000 in
set_option maxRecDepth 20000 in
theorem eb_J6_numberOfTrailingZeros_0f7a4_34 {xs : Nat → Int32} {N d : Nat} {nx : ci_N} {l0 : Int32} {l1 : Int32} {h : ci_H} {r : Int32 × ci_H} (H : b_J6_numberOfTrailingZeros_0f7a4_34 l0 l1 h = some r) : Ev xs N d 284 34 [.int l0, .int l1] [] h nx (oI r nx) := by
  unfold b_J6_numberOfTrailingZeros_0f7a4_34 at H
  refine ev_go hc_J6_numberOfTrailingZeros_0f7a4 (k := 2) (pc' := 38) (L' := [.int l0, .int l1]) (S' := [.int 256, .int l0]) rfl ?_
  by_cases c1 : l0 ≤ 256
  · rw [if_pos c1] at H
    refine ev_bt hc_J6_numberOfTrailingZeros_0f7a4 (fe_J6_numberOfTrailingZeros_0f7a4 (pc := 38) rfl) rfl c1 ?_
    exact Ev.weak (ci_le_c (Or.inr rfl) (ci_le_c (Or.inr rfl) (ci_le_n))) (eb_J6_numberOfTrailingZeros_0f7a4_49 H)
  · rw [if_neg c1] at H
    refine ev_bf hc_J6_numberOfTrailingZeros_0f7a4 (fe_J6_numberOfTrailingZeros_0f7a4 (pc := 38) rfl) rfl c1 ?_
    refine ev_go hc_J6_numberOfTrailingZeros_0f7a4 (k := 5) (pc' := 49) (L' := [.int (((l0 : Int32).toUInt32 >>> ((8 : Int32).toUInt32 &&& Int32.toUInt32 31)).toInt32), .int (l1 + 8)]) (S' := []) rfl ?_
    exact Ev.weak (ci_le_c (Or.inr rfl) (ci_le_c (Or.inr rfl) (ci_le_n))) (eb_J6_numberOfTrailingZeros_0f7a4_49 H)
def F_J6_numberOfTrailingZeros_0f7a4 (a0 : Int32) (h : ci_H) : Option (Int32 × ci_H) := if 0 < ((a0 ^^^ ((-1))) &&& (a0 - 1)) then (if ((a0 ^^^ ((-1))) &&& (a0 - 1)) ≤ 65536 then (b_J6_numberOfTrailingZeros_0f7a4_34 ((a0 ^^^ ((-1))) &&& (a0 - 1)) 1 h) else (b_J6_numberOfTrailingZeros_0f7a4_34 ((((a0 ^^^ ((-1))) &&& (a0 - 1) : Int32).toUInt32 >>> ((16 : Int32).toUInt32 &&& Int32.toUInt32 31)).toInt32) (1 + 16) h)) else (some (((a0 ^^^ ((-1))) &&& (a0 - 1)) &&& 32, h))
set_option maxHeartbeats 4000000 in
set_option maxRecDepth 20000 in
theorem E_J6_numberOfTrailingZeros_0f7a4 {xs : Nat → Int32} {N d : Nat} {nx : ci_N} {a0 : Int32} {h : ci_H} {r : Int32 × ci_H} (H : F_J6_numberOfTrailingZeros_0f7a4 a0 h = some r) (hd : 0 ≤ d) : Ev xs N d 284 0 (ci_entry [.int a0] 2) [] h nx (oI r nx) := by
  unfold F_J6_numberOfTrailingZeros_0f7a4 at H
  show Ev xs N d 284 0 [.int a0, ci_junk] [] h nx _
  refine ev_go hc_J6_numberOfTrailingZeros_0f7a4 (k := 9) (pc' := 9) (L' := [.int ((a0 ^^^ ((-1))) &&& (a0 - 1)), ci_junk]) (S' := [.int ((a0 ^^^ ((-1))) &&& (a0 - 1))]) rfl ?_
  by_cases c1 : 0 < ((a0 ^^^ ((-1))) &&& (a0 - 1))
  · rw [if_pos c1] at H
    refine ev_bt hc_J6_numberOfTrailingZeros_0f7a4 (fe_J6_numberOfTrailingZeros_0f7a4 (pc := 9) rfl) rfl c1 ?_
    refine ev_go hc_J6_numberOfTrailingZeros_0f7a4 (k := 4) (pc' := 23) (L' := [.int ((a0 ^^^ ((-1))) &&& (a0 - 1)), .int 1]) (S' := [.int 65536, .int ((a0 ^^^ ((-1))) &&& (a0 - 1))]) rfl ?_
    by_cases c2 : ((a0 ^^^ ((-1))) &&& (a0 - 1)) ≤ 65536
    · rw [if_pos c2] at H
      refine ev_bt hc_J6_numberOfTrailingZeros_0f7a4 (fe_J6_numberOfTrailingZeros_0f7a4 (pc := 23) rfl) rfl c2 ?_
      exact Ev.weak (ci_le_c (Or.inr rfl) (ci_le_c (Or.inr rfl) (ci_le_n))) (eb_J6_numberOfTrailingZeros_0f7a4_34 H)
    · rw [if_neg c2] at H
      refine ev_bf hc_J6_numberOfTrailingZeros_0f7a4 (fe_J6_numberOfTrailingZeros_0f7a4 (pc := 23) rfl) rfl c2 ?_
      refine ev_go hc_J6_numberOfTrailingZeros_0f7a4 (k := 5) (pc' := 34) (L' := [.int ((((a0 ^^^ ((-1))) &&& (a0 - 1) : Int32).toUInt32 >>> ((16 : Int32).toUInt32 &&& Int32.toUInt32 31)).toInt32), .int (1 + 16)]) (S' := []) rfl ?_
      exact Ev.weak (ci_le_c (Or.inr rfl) (ci_le_c (Or.inr rfl) (ci_le_n))) (eb_J6_numberOfTrailingZeros_0f7a4_34 H)
  · rw [if_neg c1] at H
    refine ev_bf hc_J6_numberOfTrailingZeros_0f7a4 (fe_J6_numberOfTrailingZeros_0f7a4 (pc := 9) rfl) rfl c1 ?_
    refine ev_go hc_J6_numberOfTrailingZeros_0f7a4 (k := 3) (pc' := 16) (L' := [.int ((a0 ^^^ ((-1))) &&& (a0 - 1)), ci_junk]) (S' := [.int (((a0 ^^^ ((-1))) &&& (a0 - 1)) &&& 32)]) rfl ?_
    obtain rfl := Option.some.inj H
    exact ev_8 hc_J6_numberOfTrailingZeros_0f7a4 (fe_J6_numberOfTrailingZeros_0f7a4 (pc := 16) rfl) rfl
theorem hc_X10_fits : ci_code (ci_Ms 83) = k_X10_fits := rfl
theorem fe_X10_fits {pc : Nat} {w : Option ci_I} (h : (k_X10_fits)[pc]? = some w) : (k_X10_fits)[pc]? = some w := h
def F_X10_fits (a0 : Nat) (a1 : Int32) (a2 : Int32) (h : ci_H) : Option (Int32 × ci_H) := if kO h a0 = some 10 then ((gR h a0 10 4).bind fun v1 => (rI h v1 a2).bind fun v2 => if ((a1 + v2) &&& 554189328) = 0 then (some (1, h)) else (some (0, h))) else none
theorem K_X10_fits {a0 : Nat} {a1 : Int32} {a2 : Int32} {h : ci_H} {r : Int32 × ci_H} (H : F_X10_fits a0 a1 a2 h = some r) : kO h a0 = some 10 := by
  unfold F_X10_fits at H
  by_cases c : kO h a0 = some 10
  · exact c
  · rw [if_neg c] at H; cases H
set_option maxHeartbeats 4000000 in
set_option maxRecDepth 20000 in
theorem E_X10_fits {xs : Nat → Int32} {N d : Nat} {nx : ci_N} {a0 : Nat} {a1 : Int32} {a2 : Int32} {h : ci_H} {r : Int32 × ci_H} (H : F_X10_fits a0 a1 a2 h = some r) (hd : 0 ≤ d) : Ev xs N d 83 0 (ci_entry [.ref a0, .int a1, .int a2] 3) [] h nx (oI r nx) := by
  unfold F_X10_fits at H
  by_cases ck : kO h a0 = some 10
  · rw [if_pos ck] at H
    show Ev xs N d 83 0 [.ref a0, .int a1, .int a2] [] h nx _
    refine ev_go hc_X10_fits (k := 2) (pc' := 2) (L' := [.ref a0, .int a1, .int a2]) (S' := [.ref a0, .int a1]) rfl ?_
    obtain ⟨v1, ev1, H⟩ := Option.bind_eq_some_iff.mp H
    refine ev_4 hc_X10_fits (fe_X10_fits (pc := 2) rfl) (gR_gf ev1) ?_
    refine ev_go hc_X10_fits (k := 1) (pc' := 6) (L' := [.ref a0, .int a1, .int a2]) (S' := [.int a2, .ref v1, .int a1]) rfl ?_
    obtain ⟨v2, ev2, H⟩ := Option.bind_eq_some_iff.mp H
    refine ev_4 hc_X10_fits (fe_X10_fits (pc := 6) rfl) (rI_al ev2) ?_
    refine ev_go hc_X10_fits (k := 3) (pc' := 11) (L' := [.ref a0, .int a1, .int a2]) (S' := [.int ((a1 + v2) &&& 554189328)]) rfl ?_
    by_cases c3 : ((a1 + v2) &&& 554189328) = 0
    · rw [if_pos c3] at H
      refine ev_bt hc_X10_fits (fe_X10_fits (pc := 11) rfl) rfl c3 ?_
      refine ev_go hc_X10_fits (k := 2) (pc' := 19) (L' := [.ref a0, .int a1, .int a2]) (S' := [.int 1]) rfl ?_
      obtain rfl := Option.some.inj H
      exact ev_8z hc_X10_fits (fe_X10_fits (pc := 19) rfl) rfl (Or.inr rfl)
    · rw [if_neg c3] at H
      refine ev_bf hc_X10_fits (fe_X10_fits (pc := 11) rfl) rfl c3 ?_
      refine ev_go hc_X10_fits (k := 1) (pc' := 19) (L' := [.ref a0, .int a1, .int a2]) (S' := [.int 0]) rfl ?_
      obtain rfl := Option.some.inj H
      exact ev_8z hc_X10_fits (fe_X10_fits (pc := 19) rfl) rfl (Or.inl rfl)
  · rw [if_neg ck] at H; cases H
def mg_X0_look (j : Nat) : Nat := match j with

  | _ => 3
theorem hc_X0_look : ci_code (ci_Ms 3) = k_X0_look := rfl
theorem fe_X0_look {pc : Nat} {w : Option ci_I} (h : (k_X0_look)[pc]? = some w) : (k_X0_look)[pc]? = some w := h
def b_X0_look_112 (rc : Nat → Nat → Int32 → Int32 → Int32 → ci_H → Option (ci_H)) (l0 : Nat) (l2 : Int32) (l3 : Int32) (l7 : Int32)  (h : ci_H) : Option (ci_H) := (gI h l0 0 1).bind fun v1 => if v1 = 0 then (some h) else ((rc 0 l0 l7 l2 l3 h).bind fun h3 => some h3)
set_option maxHeartbeats 4000000 in
set_option maxRecDepth 20000 in
theorem eb_X0_look_112 {xs : Nat → Int32} {N d : Nat} {nx : ci_N} {rc : Nat → Nat → Int32 → Int32 → Int32 → ci_H → Option (ci_H)} {l0 : Nat} {l2 : Int32} {l3 : Int32} {l7 : Int32} (hd : 1 ≤ d) (hrc : ∀ (j : Nat) (a0 : Nat) (a1 : Int32) (a2 : Int32) (a3 : Int32) (h : ci_H) (r : ci_H), rc j a0 a1 a2 a3 h = some r → Ev xs N d (mg_X0_look j) 0 (ci_entry [.ref a0, .int a1, .int a2, .int a3] (ci_n (ci_Ms (mg_X0_look j)))) [] h nx (oV r nx)) (hrk : ∀ (j : Nat) (a0 : Nat) (a1 : Int32) (a2 : Int32) (a3 : Int32) (h : ci_H) (r : ci_H), rc j a0 a1 a2 a3 h = some r → kO h a0 = some 0) {h : ci_H} {r : ci_H} (H : b_X0_look_112 rc l0 l2 l3 l7 h = some r) : Ev xs N (d + 1) 3 112 [.ref l0, ci_junk, .int l2, .int l3, ci_junk, ci_junk, ci_junk, .int l7] [] h nx (oV r nx) := by
  unfold b_X0_look_112 at H
  refine ev_go hc_X0_look (k := 1) (pc' := 113) (L' := [.ref l0, ci_junk, .int l2, .int l3, ci_junk, ci_junk, ci_junk, .int l7]) (S' := [.ref l0]) rfl ?_
  obtain ⟨v1, ev1, H⟩ := Option.bind_eq_some_iff.mp H
  refine ev_4 hc_X0_look (fe_X0_look (pc := 113) rfl) (gI_gf ev1) ?_
  by_cases c2 : v1 = 0
  · rw [if_pos c2] at H
    refine ev_bt hc_X0_look (fe_X0_look (pc := 116) rfl) rfl c2 ?_
    obtain rfl := Option.some.inj H
    exact ev_8 hc_X0_look (fe_X0_look (pc := 127) rfl) rfl
  · rw [if_neg c2] at H
    refine ev_bf hc_X0_look (fe_X0_look (pc := 116) rfl) rfl c2 ?_
    refine ev_go hc_X0_look (k := 4) (pc' := 124) (L' := [.ref l0, ci_junk, .int l2, .int l3, ci_junk, ci_junk, ci_junk, .int l7]) (S' := [.int l3, .int l2, .int l7, .ref l0]) rfl ?_
    obtain ⟨h3, eh3, H⟩ := Option.bind_eq_some_iff.mp H
    refine ev_call (vs := [.ref l0, .int l7, .int l2, .int l3]) (rest := []) (q := q_X0_look) hc_X0_look (Or.inr rfl) (fe_X0_look (pc := 124) rfl) ms_3 rfl rfl (Nat.le_of_ble_eq_true rfl) (kO_recv (hrk _ _ _ _ _ _ _ eh3)) (hrc 0 _ _ _ _ _ _ eh3) rfl ?_
    show Ev xs N (d + 1) 3 127 [.ref l0, ci_junk, .int l2, .int l3, ci_junk, ci_junk, ci_junk, .int l7] [] h3 nx _
    obtain rfl := Option.some.inj H
    exact ev_8 hc_X0_look (fe_X0_look (pc := 127) rfl) rfl
def b_X0_look_70 (rc : Nat → Nat → Int32 → Int32 → Int32 → ci_H → Option (ci_H)) (l0 : Nat) (l2 : Int32) (l3 : Int32) (l5 : Int32) (l6 : Int32) (l7 : Int32)  (h : ci_H) : Option (ci_H) := if 12 ≤ l6 then (b_X0_look_112 rc l0 l2 l3 l7 h) else ((gR h l0 0 0).bind fun v2 => (F_X10_fits v2 l2 l6 h).bind fun q3 => if q3.1 = 0 then (b_X0_look_112 rc l0 l2 l3 l7 q3.2) else ((gR q3.2 l0 0 0).bind fun v5 => (gR q3.2 v5 10 4).bind fun v6 => (rI q3.2 v6 l6).bind fun v7 => (rc 0 l0 l7 (l2 + v7) (l3 ||| l5) q3.2).bind fun h8 => b_X0_look_112 rc l0 l2 l3 l7 h8))
set_option maxHeartbeats 4000000 in
set_option maxRecDepth 20000 in
theorem eb_X0_look_70 {xs : Nat → Int32} {N d : Nat} {nx : ci_N} {rc : Nat → Nat → Int32 → Int32 → Int32 → ci_H → Option (ci_H)} {l0 : Nat} {l2 : Int32} {l3 : Int32} {l5 : Int32} {l6 : Int32} {l7 : Int32} (hd : 1 ≤ d) (hrc : ∀ (j : Nat) (a0 : Nat) (a1 : Int32) (a2 : Int32) (a3 : Int32) (h : ci_H) (r : ci_H), rc j a0 a1 a2 a3 h = some r → Ev xs N d (mg_X0_look j) 0 (ci_entry [.ref a0, .int a1, .int a2, .int a3] (ci_n (ci_Ms (mg_X0_look j)))) [] h nx (oV r nx)) (hrk : ∀ (j : Nat) (a0 : Nat) (a1 : Int32) (a2 : Int32) (a3 : Int32) (h : ci_H) (r : ci_H), rc j a0 a1 a2 a3 h = some r → kO h a0 = some 0) {h : ci_H} {r : ci_H} (H : b_X0_look_70 rc l0 l2 l3 l5 l6 l7 h = some r) : Ev xs N (d + 1) 3 70 [.ref l0, ci_junk, .int l2, .int l3, ci_junk, .int l5, .int l6, .int l7] [] h nx (oV r nx) := by
  unfold b_X0_look_70 at H
  refine ev_go hc_X0_look (k := 2) (pc' := 74) (L' := [.ref l0, ci_junk, .int l2, .int l3, ci_junk, .int l5, .int l6, .int l7]) (S' := [.int 12, .int l6]) rfl ?_
  by_cases c1 : 12 ≤ l6
  · rw [if_pos c1] at H
    refine ev_bt hc_X0_look (fe_X0_look (pc := 74) rfl) rfl c1 ?_
    exact Ev.weak (ci_le_c (Or.inr rfl) (ci_le_c (Or.inl rfl) (ci_le_c (Or.inr rfl) (ci_le_c (Or.inr rfl) (ci_le_c (Or.inl rfl) (ci_le_c (Or.inl rfl) (ci_le_c (Or.inl rfl) (ci_le_c (Or.inr rfl) (ci_le_n))))))))) (eb_X0_look_112 hd hrc hrk H)
  · rw [if_neg c1] at H
    refine ev_bf hc_X0_look (fe_X0_look (pc := 74) rfl) rfl c1 ?_
    refine ev_go hc_X0_look (k := 1) (pc' := 78) (L' := [.ref l0, ci_junk, .int l2, .int l3, ci_junk, .int l5, .int l6, .int l7]) (S' := [.ref l0]) rfl ?_
    obtain ⟨v2, ev2, H⟩ := Option.bind_eq_some_iff.mp H
    refine ev_4 hc_X0_look (fe_X0_look (pc := 78) rfl) (gR_gf ev2) ?_
    refine ev_go hc_X0_look (k := 2) (pc' := 84) (L' := [.ref l0, ci_junk, .int l2, .int l3, ci_junk, .int l5, .int l6, .int l7]) (S' := [.int l6, .int l2, .ref v2]) rfl ?_
    obtain ⟨q3, eq3, H⟩ := Option.bind_eq_some_iff.mp H
    refine ev_call (vs := [.ref v2, .int l2, .int l6]) (rest := []) (q := q_X10_fits) hc_X0_look (Or.inr rfl) (fe_X0_look (pc := 84) rfl) ms_83 rfl rfl (Nat.le_of_ble_eq_true rfl) (kO_recv (K_X10_fits eq3)) (E_X10_fits eq3 (by omega)) rfl ?_
    show Ev xs N (d + 1) 3 87 [.ref l0, ci_junk, .int l2, .int l3, ci_junk, .int l5, .int l6, .int l7] [.int q3.1] q3.2 nx _
    by_cases c4 : q3.1 = 0
    · rw [if_pos c4] at H
      refine ev_bt hc_X0_look (fe_X0_look (pc := 87) rfl) rfl c4 ?_
      exact Ev.weak (ci_le_c (Or.inr rfl) (ci_le_c (Or.inl rfl) (ci_le_c (Or.inr rfl) (ci_le_c (Or.inr rfl) (ci_le_c (Or.inl rfl) (ci_le_c (Or.inl rfl) (ci_le_c (Or.inl rfl) (ci_le_c (Or.inr rfl) (ci_le_n))))))))) (eb_X0_look_112 hd hrc hrk H)
    · rw [if_neg c4] at H
      refine ev_bf hc_X0_look (fe_X0_look (pc := 87) rfl) rfl c4 ?_
      refine ev_go hc_X0_look (k := 4) (pc' := 95) (L' := [.ref l0, ci_junk, .int l2, .int l3, ci_junk, .int l5, .int l6, .int l7]) (S' := [.ref l0, .int l2, .int l7, .ref l0]) rfl ?_
      obtain ⟨v5, ev5, H⟩ := Option.bind_eq_some_iff.mp H
      refine ev_4 hc_X0_look (fe_X0_look (pc := 95) rfl) (gR_gf ev5) ?_
      obtain ⟨v6, ev6, H⟩ := Option.bind_eq_some_iff.mp H
      refine ev_4 hc_X0_look (fe_X0_look (pc := 98) rfl) (gR_gf ev6) ?_
      refine ev_go hc_X0_look (k := 1) (pc' := 103) (L' := [.ref l0, ci_junk, .int l2, .int l3, ci_junk, .int l5, .int l6, .int l7]) (S' := [.int l6, .ref v6, .int l2, .int l7, .ref l0]) rfl ?_
      obtain ⟨v7, ev7, H⟩ := Option.bind_eq_some_iff.mp H
      refine ev_4 hc_X0_look (fe_X0_look (pc := 103) rfl) (rI_al ev7) ?_
      refine ev_go hc_X0_look (k := 4) (pc' := 109) (L' := [.ref l0, ci_junk, .int l2, .int l3, ci_junk, .int l5, .int l6, .int l7]) (S' := [.int (l3 ||| l5), .int (l2 + v7), .int l7, .ref l0]) rfl ?_
      obtain ⟨h8, eh8, H⟩ := Option.bind_eq_some_iff.mp H
      refine ev_call (vs := [.ref l0, .int l7, .int (l2 + v7), .int (l3 ||| l5)]) (rest := []) (q := q_X0_look) hc_X0_look (Or.inr rfl) (fe_X0_look (pc := 109) rfl) ms_3 rfl rfl (Nat.le_of_ble_eq_true rfl) (kO_recv (hrk _ _ _ _ _ _ _ eh8)) (hrc 0 _ _ _ _ _ _ eh8) rfl ?_
      show Ev xs N (d + 1) 3 112 [.ref l0, ci_junk, .int l2, .int l3, ci_junk, .int l5, .int l6, .int l7] [] h8 nx _
      exact Ev.weak (ci_le_c (Or.inr rfl) (ci_le_c (Or.inl rfl) (ci_le_c (Or.inr rfl) (ci_le_c (Or.inr rfl) (ci_le_c (Or.inl rfl) (ci_le_c (Or.inl rfl) (ci_le_c (Or.inl rfl) (ci_le_c (Or.inr rfl) (ci_le_n))))))))) (eb_X0_look_112 hd hrc hrk H)
def G_X0_look (rc : Nat → Nat → Int32 → Int32 → Int32 → ci_H → Option (ci_H)) (a0 : Nat) (a1 : Int32) (a2 : Int32) (a3 : Int32) (h : ci_H) : Option (ci_H) := if kO h a0 = some 0 then ((F_J6_bitCount_0f7a4 (a3 ||| a1) h).bind fun q1 => (gI q1.2 a0 0 3).bind fun v2 => if v2 < q1.1 then (if a1 = 0 then ((pF q1.2 a0 0 2 (.int a3)).bind fun h5 => (pF h5 a0 0 3 (.int q1.1)).bind fun h6 => some h6) else ((F_J6_highestOneBit_0f7a4 a1 q1.2).bind fun q7 => (F_J6_numberOfTrailingZeros_0f7a4 q7.1 q7.2).bind fun q8 => (gI q8.2 a0 0 1).bind fun v9 => if v9 = 0 then ((rc 0 a0 (a1 &&& (q7.1 ^^^ ((-1)))) a2 a3 q8.2).bind fun h11 => b_X0_look_70 rc a0 a2 a3 q7.1 q8.1 (a1 &&& (q7.1 ^^^ ((-1)))) h11) else (b_X0_look_70 rc a0 a2 a3 q7.1 q8.1 (a1 &&& (q7.1 ^^^ ((-1)))) q8.2))) else (some q1.2)) else none
theorem KG_X0_look {rc : Nat → Nat → Int32 → Int32 → Int32 → ci_H → Option (ci_H)} {a0 : Nat} {a1 : Int32} {a2 : Int32} {a3 : Int32} {h : ci_H} {r : ci_H} (H : G_X0_look rc a0 a1 a2 a3 h = some r) : kO h a0 = some 0 := by
  unfold G_X0_look at H
  by_cases c : kO h a0 = some 0
  · exact c
  · rw [if_neg c] at H; cases H
set_option maxHeartbeats 4000000 in
set_option maxRecDepth 20000 in
theorem EG_X0_look {xs : Nat → Int32} {N d : Nat} {nx : ci_N} {rc : Nat → Nat → Int32 → Int32 → Int32 → ci_H → Option (ci_H)} {a0 : Nat} {a1 : Int32} {a2 : Int32} {a3 : Int32} (hd : 1 ≤ d) (hrc : ∀ (j : Nat) (a0 : Nat) (a1 : Int32) (a2 : Int32) (a3 : Int32) (h : ci_H) (r : ci_H), rc j a0 a1 a2 a3 h = some r → Ev xs N d (mg_X0_look j) 0 (ci_entry [.ref a0, .int a1, .int a2, .int a3] (ci_n (ci_Ms (mg_X0_look j)))) [] h nx (oV r nx)) (hrk : ∀ (j : Nat) (a0 : Nat) (a1 : Int32) (a2 : Int32) (a3 : Int32) (h : ci_H) (r : ci_H), rc j a0 a1 a2 a3 h = some r → kO h a0 = some 0) {h : ci_H} {r : ci_H} (H : G_X0_look rc a0 a1 a2 a3 h = some r) : Ev xs N (d + 1) 3 0 (ci_entry [.ref a0, .int a1, .int a2, .int a3] 8) [] h nx (oV r nx) := by
  unfold G_X0_look at H
  by_cases ck : kO h a0 = some 0
  · rw [if_pos ck] at H
    show Ev xs N (d + 1) 3 0 [.ref a0, .int a1, .int a2, .int a3, ci_junk, ci_junk, ci_junk, ci_junk] [] h nx _
    refine ev_go hc_X0_look (k := 3) (pc' := 3) (L' := [.ref a0, .int a1, .int a2, .int a3, ci_junk, ci_junk, ci_junk, ci_junk]) (S' := [.int (a3 ||| a1)]) rfl ?_
    obtain ⟨q1, eq1, H⟩ := Option.bind_eq_some_iff.mp H
    refine ev_call (vs := [.int (a3 ||| a1)]) (rest := []) (q := q_J6_bitCount_0f7a4) hc_X0_look (Or.inl rfl) (fe_X0_look (pc := 3) rfl) ms_285 rfl rfl (Nat.le_of_ble_eq_true rfl) rfl (E_J6_bitCount_0f7a4 eq1 (by omega)) rfl ?_
    show Ev xs N (d + 1) 3 6 [.ref a0, .int a1, .int a2, .int a3, ci_junk, ci_junk, ci_junk, ci_junk] [.int q1.1] q1.2 nx _
    refine ev_go hc_X0_look (k := 3) (pc' := 11) (L' := [.ref a0, .int a1, .int a2, .int a3, .int q1.1, ci_junk, ci_junk, ci_junk]) (S' := [.ref a0, .int q1.1]) rfl ?_
    obtain ⟨v2, ev2, H⟩ := Option.bind_eq_some_iff.mp H
    refine ev_4 hc_X0_look (fe_X0_look (pc := 11) rfl) (gI_gf ev2) ?_
    by_cases c3 : v2 < q1.1
    · rw [if_pos c3] at H
      refine ev_bt hc_X0_look (fe_X0_look (pc := 14) rfl) rfl c3 ?_
      refine ev_go hc_X0_look (k := 1) (pc' := 19) (L' := [.ref a0, .int a1, .int a2, .int a3, .int q1.1, ci_junk, ci_junk, ci_junk]) (S' := [.int a1]) rfl ?_
      by_cases c4 : a1 = 0
      · rw [if_pos c4] at H
        refine ev_bt hc_X0_look (fe_X0_look (pc := 19) rfl) rfl c4 ?_
        refine ev_go hc_X0_look (k := 2) (pc' := 24) (L' := [.ref a0, .int a1, .int a2, .int a3, .int q1.1, ci_junk, ci_junk, ci_junk]) (S' := [.int a3, .ref a0]) rfl ?_
        obtain ⟨h5, eh5, H⟩ := Option.bind_eq_some_iff.mp H
        refine ev_5 hc_X0_look (fe_X0_look (pc := 24) rfl) (pF_pf eh5) ?_
        refine ev_go hc_X0_look (k := 2) (pc' := 30) (L' := [.ref a0, .int a1, .int a2, .int a3, .int q1.1, ci_junk, ci_junk, ci_junk]) (S' := [.int q1.1, .ref a0]) rfl ?_
        obtain ⟨h6, eh6, H⟩ := Option.bind_eq_some_iff.mp H
        refine ev_5 hc_X0_look (fe_X0_look (pc := 30) rfl) (pF_pf eh6) ?_
        obtain rfl := Option.some.inj H
        exact ev_8 hc_X0_look (fe_X0_look (pc := 33) rfl) rfl
      · rw [if_neg c4] at H
        refine ev_bf hc_X0_look (fe_X0_look (pc := 19) rfl) rfl c4 ?_
        refine ev_go hc_X0_look (k := 1) (pc' := 35) (L' := [.ref a0, .int a1, .int a2, .int a3, .int q1.1, ci_junk, ci_junk, ci_junk]) (S' := [.int a1]) rfl ?_
        obtain ⟨q7, eq7, H⟩ := Option.bind_eq_some_iff.mp H
        refine ev_call (vs := [.int a1]) (rest := []) (q := q_J6_highestOneBit_0f7a4) hc_X0_look (Or.inl rfl) (fe_X0_look (pc := 35) rfl) ms_282 rfl rfl (Nat.le_of_ble_eq_true rfl) rfl (E_J6_highestOneBit_0f7a4 eq7 (by omega)) rfl ?_
        show Ev xs N (d + 1) 3 38 [.ref a0, .int a1, .int a2, .int a3, .int q1.1, ci_junk, ci_junk, ci_junk] [.int q7.1] q7.2 nx _
        refine ev_go hc_X0_look (k := 2) (pc' := 42) (L' := [.ref a0, .int a1, .int a2, .int a3, .int q1.1, .int q7.1, ci_junk, ci_junk]) (S' := [.int q7.1]) rfl ?_
        obtain ⟨q8, eq8, H⟩ := Option.bind_eq_some_iff.mp H
        refine ev_call (vs := [.int q7.1]) (rest := []) (q := q_J6_numberOfTrailingZeros_0f7a4) hc_X0_look (Or.inl rfl) (fe_X0_look (pc := 42) rfl) ms_284 rfl rfl (Nat.le_of_ble_eq_true rfl) rfl (E_J6_numberOfTrailingZeros_0f7a4 eq8 (by omega)) rfl ?_
        show Ev xs N (d + 1) 3 45 [.ref a0, .int a1, .int a2, .int a3, .int q1.1, .int q7.1, ci_junk, ci_junk] [.int q8.1] q8.2 nx _
        refine ev_go hc_X0_look (k := 8) (pc' := 56) (L' := [.ref a0, .int a1, .int a2, .int a3, .int q1.1, .int q7.1, .int q8.1, .int (a1 &&& (q7.1 ^^^ ((-1))))]) (S' := [.ref a0]) rfl ?_
        obtain ⟨v9, ev9, H⟩ := Option.bind_eq_some_iff.mp H
        refine ev_4 hc_X0_look (fe_X0_look (pc := 56) rfl) (gI_gf ev9) ?_
        by_cases c10 : v9 = 0
        · rw [if_pos c10] at H
          refine ev_bt hc_X0_look (fe_X0_look (pc := 59) rfl) rfl c10 ?_
          refine ev_go hc_X0_look (k := 4) (pc' := 67) (L' := [.ref a0, .int a1, .int a2, .int a3, .int q1.1, .int q7.1, .int q8.1, .int (a1 &&& (q7.1 ^^^ ((-1))))]) (S' := [.int a3, .int a2, .int (a1 &&& (q7.1 ^^^ ((-1)))), .ref a0]) rfl ?_
          obtain ⟨h11, eh11, H⟩ := Option.bind_eq_some_iff.mp H
          refine ev_call (vs := [.ref a0, .int (a1 &&& (q7.1 ^^^ ((-1)))), .int a2, .int a3]) (rest := []) (q := q_X0_look) hc_X0_look (Or.inr rfl) (fe_X0_look (pc := 67) rfl) ms_3 rfl rfl (Nat.le_of_ble_eq_true rfl) (kO_recv (hrk _ _ _ _ _ _ _ eh11)) (hrc 0 _ _ _ _ _ _ eh11) rfl ?_
          show Ev xs N (d + 1) 3 70 [.ref a0, .int a1, .int a2, .int a3, .int q1.1, .int q7.1, .int q8.1, .int (a1 &&& (q7.1 ^^^ ((-1))))] [] h11 nx _
          exact Ev.weak (ci_le_c (Or.inr rfl) (ci_le_c (Or.inl rfl) (ci_le_c (Or.inr rfl) (ci_le_c (Or.inr rfl) (ci_le_c (Or.inl rfl) (ci_le_c (Or.inr rfl) (ci_le_c (Or.inr rfl) (ci_le_c (Or.inr rfl) (ci_le_n))))))))) (eb_X0_look_70 hd hrc hrk H)
        · rw [if_neg c10] at H
          refine ev_bf hc_X0_look (fe_X0_look (pc := 59) rfl) rfl c10 ?_
          exact Ev.weak (ci_le_c (Or.inr rfl) (ci_le_c (Or.inl rfl) (ci_le_c (Or.inr rfl) (ci_le_c (Or.inr rfl) (ci_le_c (Or.inl rfl) (ci_le_c (Or.inr rfl) (ci_le_c (Or.inr rfl) (ci_le_c (Or.inr rfl) (ci_le_n))))))))) (eb_X0_look_70 hd hrc hrk H)
    · rw [if_neg c3] at H
      refine ev_bf hc_X0_look (fe_X0_look (pc := 14) rfl) rfl c3 ?_
      obtain rfl := Option.some.inj H
      exact ev_8 hc_X0_look (fe_X0_look (pc := 17) rfl) rfl
  · rw [if_neg ck] at H; cases H
def FG_X0_look : Nat → Nat → Nat → Int32 → Int32 → Int32 → ci_H → Option (ci_H)
  | 0, _, _, _, _, _, _ => none
  | n + 1, j, a0, a1, a2, a3, h => match j with
    | _ => G_X0_look (fun j a0 a1 a2 a3 h => FG_X0_look n j a0 a1 a2 a3 h) a0 a1 a2 a3 h
theorem KGG_X0_look : ∀ (n j : Nat) (a0 : Nat) (a1 : Int32) (a2 : Int32) (a3 : Int32) (h : ci_H) (r : ci_H), FG_X0_look n j a0 a1 a2 a3 h = some r → kO h a0 = some 0 := by
  intro n j a0 a1 a2 a3 h r H
  cases n with
  | zero => cases H
  | succ n =>
    match j, H with
    | j, H => exact KG_X0_look H
theorem EGG_X0_look {xs : Nat → Int32} {N : Nat} {nx : ci_N} : ∀ (n d j : Nat) (a0 : Nat) (a1 : Int32) (a2 : Int32) (a3 : Int32) (h : ci_H) (r : ci_H), FG_X0_look n j a0 a1 a2 a3 h = some r → n + 2 ≤ d → Ev xs N d (mg_X0_look j) 0 (ci_entry [.ref a0, .int a1, .int a2, .int a3] (ci_n (ci_Ms (mg_X0_look j)))) [] h nx (oV r nx) := by
  intro n
  induction n with
  | zero => intro d j a0 a1 a2 a3 h r H; cases H
  | succ n ih =>
    intro d j a0 a1 a2 a3 h r H hd
    obtain ⟨d, rfl⟩ : ∃ d2, d = d2 + 1 := ⟨d - 1, by omega⟩
    match j, H with
    | j, H => exact EG_X0_look (by omega) (fun j a0 a1 a2 a3 h r H => ih d j a0 a1 a2 a3 h r H (by omega)) (KGG_X0_look n) H
def F_X0_look (a0 : Nat) (a1 : Int32) (a2 : Int32) (a3 : Int32) (h : ci_H) : Option (ci_H) := FG_X0_look recN 0 a0 a1 a2 a3 h
theorem K_X0_look {a0 : Nat} {a1 : Int32} {a2 : Int32} {a3 : Int32} {h : ci_H} {r : ci_H} (H : F_X0_look a0 a1 a2 a3 h = some r) : kO h a0 = some 0 := KGG_X0_look recN 0 _ _ _ _ h r H
theorem E_X0_look {xs : Nat → Int32} {N d : Nat} {nx : ci_N} {a0 : Nat} {a1 : Int32} {a2 : Int32} {a3 : Int32} {h : ci_H} {r : ci_H} (H : F_X0_look a0 a1 a2 a3 h = some r) (hd : 102 ≤ d) : Ev xs N d 3 0 (ci_entry [.ref a0, .int a1, .int a2, .int a3] 8) [] h nx (oV r nx) := EGG_X0_look recN d 0 _ _ _ _ h r H (by unfold recN; omega)
theorem hc_X0_leastOfMost : ci_code (ci_Ms 1) = k_X0_leastOfMost := rfl
theorem fe_X0_leastOfMost {pc : Nat} {w : Option ci_I} (h : (k_X0_leastOfMost)[pc]? = some w) : (k_X0_leastOfMost)[pc]? = some w := h
def F_X0_leastOfMost (a0 : Nat) (a1 : Int32) (a2 : Int32) (h : ci_H) : Option (Int32 × ci_H) := if kO h a0 = some 0 then ((pF h a0 0 1 (.int 0)).bind fun h1 => (pF h1 a0 0 3 (.int ((-1)))).bind fun h2 => (F_X0_look a0 a2 a1 0 h2).bind fun h3 => (gI h3 a0 0 2).bind fun v4 => some (v4, h3)) else none
theorem K_X0_leastOfMost {a0 : Nat} {a1 : Int32} {a2 : Int32} {h : ci_H} {r : Int32 × ci_H} (H : F_X0_leastOfMost a0 a1 a2 h = some r) : kO h a0 = some 0 := by
  unfold F_X0_leastOfMost at H
  by_cases c : kO h a0 = some 0
  · exact c
  · rw [if_neg c] at H; cases H
set_option maxHeartbeats 4000000 in
set_option maxRecDepth 20000 in
theorem E_X0_leastOfMost {xs : Nat → Int32} {N d : Nat} {nx : ci_N} {a0 : Nat} {a1 : Int32} {a2 : Int32} {h : ci_H} {r : Int32 × ci_H} (H : F_X0_leastOfMost a0 a1 a2 h = some r) (hd : 103 ≤ d) : Ev xs N d 1 0 (ci_entry [.ref a0, .int a1, .int a2] 3) [] h nx (oI r nx) := by
  obtain ⟨d, rfl⟩ : ∃ d2, d = d2 + 1 := ⟨d - 1, by omega⟩
  have hd : 102 ≤ d := by omega
  unfold F_X0_leastOfMost at H
  by_cases ck : kO h a0 = some 0
  · rw [if_pos ck] at H
    show Ev xs N (d + 1) 1 0 [.ref a0, .int a1, .int a2] [] h nx _
    refine ev_go hc_X0_leastOfMost (k := 2) (pc' := 2) (L' := [.ref a0, .int a1, .int a2]) (S' := [.int 0, .ref a0]) rfl ?_
    obtain ⟨h1, eh1, H⟩ := Option.bind_eq_some_iff.mp H
    refine ev_5 hc_X0_leastOfMost (fe_X0_leastOfMost (pc := 2) rfl) (pF_pf eh1) ?_
    refine ev_go hc_X0_leastOfMost (k := 2) (pc' := 7) (L' := [.ref a0, .int a1, .int a2]) (S' := [.int ((-1)), .ref a0]) rfl ?_
    obtain ⟨h2, eh2, H⟩ := Option.bind_eq_some_iff.mp H
    refine ev_5 hc_X0_leastOfMost (fe_X0_leastOfMost (pc := 7) rfl) (pF_pf eh2) ?_
    refine ev_go hc_X0_leastOfMost (k := 4) (pc' := 14) (L' := [.ref a0, .int a1, .int a2]) (S' := [.int 0, .int a1, .int a2, .ref a0]) rfl ?_
    obtain ⟨h3, eh3, H⟩ := Option.bind_eq_some_iff.mp H
    refine ev_call (vs := [.ref a0, .int a2, .int a1, .int 0]) (rest := []) (q := q_X0_look) hc_X0_leastOfMost (Or.inr rfl) (fe_X0_leastOfMost (pc := 14) rfl) ms_3 rfl rfl (Nat.le_of_ble_eq_true rfl) (kO_recv (K_X0_look eh3)) (E_X0_look eh3 (by omega)) rfl ?_
    show Ev xs N (d + 1) 1 17 [.ref a0, .int a1, .int a2] [] h3 nx _
    refine ev_go hc_X0_leastOfMost (k := 1) (pc' := 18) (L' := [.ref a0, .int a1, .int a2]) (S' := [.ref a0]) rfl ?_
    obtain ⟨v4, ev4, H⟩ := Option.bind_eq_some_iff.mp H
    refine ev_4 hc_X0_leastOfMost (fe_X0_leastOfMost (pc := 18) rfl) (gI_gf ev4) ?_
    obtain rfl := Option.some.inj H
    exact ev_8 hc_X0_leastOfMost (fe_X0_leastOfMost (pc := 21) rfl) rfl
  · rw [if_neg ck] at H; cases H
theorem hc_X0_greatestOfMost : ci_code (ci_Ms 2) = k_X0_greatestOfMost := rfl
theorem fe_X0_greatestOfMost {pc : Nat} {w : Option ci_I} (h : (k_X0_greatestOfMost)[pc]? = some w) : (k_X0_greatestOfMost)[pc]? = some w := h
def F_X0_greatestOfMost (a0 : Nat) (a1 : Int32) (a2 : Int32) (h : ci_H) : Option (Int32 × ci_H) := if kO h a0 = some 0 then ((pF h a0 0 1 (.int 1)).bind fun h1 => (pF h1 a0 0 3 (.int ((-1)))).bind fun h2 => (F_X0_look a0 a2 a1 0 h2).bind fun h3 => (gI h3 a0 0 2).bind fun v4 => some (v4, h3)) else none
theorem K_X0_greatestOfMost {a0 : Nat} {a1 : Int32} {a2 : Int32} {h : ci_H} {r : Int32 × ci_H} (H : F_X0_greatestOfMost a0 a1 a2 h = some r) : kO h a0 = some 0 := by
  unfold F_X0_greatestOfMost at H
  by_cases c : kO h a0 = some 0
  · exact c
  · rw [if_neg c] at H; cases H
set_option maxHeartbeats 4000000 in
set_option maxRecDepth 20000 in
theorem E_X0_greatestOfMost {xs : Nat → Int32} {N d : Nat} {nx : ci_N} {a0 : Nat} {a1 : Int32} {a2 : Int32} {h : ci_H} {r : Int32 × ci_H} (H : F_X0_greatestOfMost a0 a1 a2 h = some r) (hd : 103 ≤ d) : Ev xs N d 2 0 (ci_entry [.ref a0, .int a1, .int a2] 3) [] h nx (oI r nx) := by
  obtain ⟨d, rfl⟩ : ∃ d2, d = d2 + 1 := ⟨d - 1, by omega⟩
  have hd : 102 ≤ d := by omega
  unfold F_X0_greatestOfMost at H
  by_cases ck : kO h a0 = some 0
  · rw [if_pos ck] at H
    show Ev xs N (d + 1) 2 0 [.ref a0, .int a1, .int a2] [] h nx _
    refine ev_go hc_X0_greatestOfMost (k := 2) (pc' := 2) (L' := [.ref a0, .int a1, .int a2]) (S' := [.int 1, .ref a0]) rfl ?_
    obtain ⟨h1, eh1, H⟩ := Option.bind_eq_some_iff.mp H
    refine ev_5 hc_X0_greatestOfMost (fe_X0_greatestOfMost (pc := 2) rfl) (pF_pf eh1) ?_
    refine ev_go hc_X0_greatestOfMost (k := 2) (pc' := 7) (L' := [.ref a0, .int a1, .int a2]) (S' := [.int ((-1)), .ref a0]) rfl ?_
    obtain ⟨h2, eh2, H⟩ := Option.bind_eq_some_iff.mp H
    refine ev_5 hc_X0_greatestOfMost (fe_X0_greatestOfMost (pc := 7) rfl) (pF_pf eh2) ?_
    refine ev_go hc_X0_greatestOfMost (k := 4) (pc' := 14) (L' := [.ref a0, .int a1, .int a2]) (S' := [.int 0, .int a1, .int a2, .ref a0]) rfl ?_
    obtain ⟨h3, eh3, H⟩ := Option.bind_eq_some_iff.mp H
    refine ev_call (vs := [.ref a0, .int a2, .int a1, .int 0]) (rest := []) (q := q_X0_look) hc_X0_greatestOfMost (Or.inr rfl) (fe_X0_greatestOfMost (pc := 14) rfl) ms_3 rfl rfl (Nat.le_of_ble_eq_true rfl) (kO_recv (K_X0_look eh3)) (E_X0_look eh3 (by omega)) rfl ?_
    show Ev xs N (d + 1) 2 17 [.ref a0, .int a1, .int a2] [] h3 nx _
    refine ev_go hc_X0_greatestOfMost (k := 1) (pc' := 18) (L' := [.ref a0, .int a1, .int a2]) (S' := [.ref a0]) rfl ?_
    obtain ⟨v4, ev4, H⟩ := Option.bind_eq_some_iff.mp H
    refine ev_4 hc_X0_greatestOfMost (fe_X0_greatestOfMost (pc := 18) rfl) (gI_gf ev4) ?_
    obtain rfl := Option.some.inj H
    exact ev_8 hc_X0_greatestOfMost (fe_X0_greatestOfMost (pc := 21) rfl) rfl
  · rw [if_neg ck] at H; cases H
theorem hc_X10_ownedBy : ci_code (ci_Ms 76) = k_X10_ownedBy := rfl
theorem fe_X10_ownedBy {pc : Nat} {w : Option ci_I} (h : (k_X10_ownedBy)[pc]? = some w) : (k_X10_ownedBy)[pc]? = some w := h
def b_X10_ownedBy_31 (r_4 : Int32 → Int32 → ci_H → Option (Int32 × ci_H)) (l0 : Nat) (l1 : Int32) (l2 : Int32) (l3 : Int32)  (h : ci_H) : Option (Int32 × ci_H) := r_4 l2 (l3 + 1) h
set_option maxHeartbeats 4000000 in
set_option maxRecDepth 20000 in
theorem eb_X10_ownedBy_31 {xs : Nat → Int32} {N d : Nat} {nx : ci_N} {r_4 : Int32 → Int32 → ci_H → Option (Int32 × ci_H)} {l0 : Nat} {l1 : Int32} {l2 : Int32} {l3 : Int32} (h_4 : ∀ (l2 : Int32) (l3 : Int32) (h : ci_H) (r : Int32 × ci_H), r_4 l2 l3 h = some r → Ev xs N d 76 4 [.ref l0, .int l1, .int l2, .int l3] [] h nx (oI r nx)) {h : ci_H} {r : Int32 × ci_H} (H : b_X10_ownedBy_31 r_4 l0 l1 l2 l3 h = some r) : Ev xs N d 76 31 [.ref l0, .int l1, .int l2, .int l3] [] h nx (oI r nx) := by
  unfold b_X10_ownedBy_31 at H
  refine ev_go hc_X10_ownedBy (k := 2) (pc' := 4) (L' := [.ref l0, .int l1, .int l2, .int (l3 + 1)]) (S' := []) rfl ?_
  exact Ev.weak (ci_le_c (Or.inr rfl) (ci_le_c (Or.inr rfl) (ci_le_c (Or.inr rfl) (ci_le_c (Or.inr rfl) (ci_le_n))))) (h_4 _ _ _ _ H)
def b_X10_ownedBy_4 (l0 : Nat) (l1 : Int32) : Nat → Int32 → Int32 → ci_H → Option (Int32 × ci_H)
  | 0, _, _, _ => none
  | n + 1, l2, l3, h => (gI h l0 10 6).bind fun v1 => if v1 ≤ l3 then (some (l2, h)) else ((gR h l0 10 0).bind fun v3 => (gR h v3 6 0).bind fun v4 => (rI h v4 l3).bind fun v5 => if v5 = l1 then (b_X10_ownedBy_31 (fun x0 x1 x2 => b_X10_ownedBy_4 l0 l1 n x0 x1 x2) l0 l1 (l2 ||| ((1 : Int32) <<< (l3 &&& 31))) l3 h) else (b_X10_ownedBy_31 (fun x0 x1 x2 => b_X10_ownedBy_4 l0 l1 n x0 x1 x2) l0 l1 l2 l3 h))
set_option maxHeartbeats 4000000 in
set_option maxRecDepth 20000 in
theorem eb_X10_ownedBy_4 {xs : Nat → Int32} {N d : Nat} {nx : ci_N} {l0 : Nat} {l1 : Int32} : ∀ (n : Nat) (l2 : Int32) (l3 : Int32) (h : ci_H) (r : Int32 × ci_H), b_X10_ownedBy_4 l0 l1 n l2 l3 h = some r → Ev xs N d 76 4 [.ref l0, .int l1, .int l2, .int l3] [] h nx (oI r nx) := by
  intro n
  induction n with
  | zero => intro l2 l3 h r H; unfold b_X10_ownedBy_4 at H; cases H
  | succ n ih =>
    intro l2 l3 h r H
    unfold b_X10_ownedBy_4 at H
    refine ev_go hc_X10_ownedBy (k := 2) (pc' := 6) (L' := [.ref l0, .int l1, .int l2, .int l3]) (S' := [.ref l0, .int l3]) rfl ?_
    obtain ⟨v1, ev1, H⟩ := Option.bind_eq_some_iff.mp H
    refine ev_4 hc_X10_ownedBy (fe_X10_ownedBy (pc := 6) rfl) (gI_gf ev1) ?_
    by_cases c2 : v1 ≤ l3
    · rw [if_pos c2] at H
      refine ev_bt hc_X10_ownedBy (fe_X10_ownedBy (pc := 9) rfl) rfl c2 ?_
      refine ev_go hc_X10_ownedBy (k := 1) (pc' := 38) (L' := [.ref l0, .int l1, .int l2, .int l3]) (S' := [.int l2]) rfl ?_
      obtain rfl := Option.some.inj H
      exact ev_8 hc_X10_ownedBy (fe_X10_ownedBy (pc := 38) rfl) rfl
    · rw [if_neg c2] at H
      refine ev_bf hc_X10_ownedBy (fe_X10_ownedBy (pc := 9) rfl) rfl c2 ?_
      refine ev_go hc_X10_ownedBy (k := 1) (pc' := 13) (L' := [.ref l0, .int l1, .int l2, .int l3]) (S' := [.ref l0]) rfl ?_
      obtain ⟨v3, ev3, H⟩ := Option.bind_eq_some_iff.mp H
      refine ev_4 hc_X10_ownedBy (fe_X10_ownedBy (pc := 13) rfl) (gR_gf ev3) ?_
      obtain ⟨v4, ev4, H⟩ := Option.bind_eq_some_iff.mp H
      refine ev_4 hc_X10_ownedBy (fe_X10_ownedBy (pc := 16) rfl) (gR_gf ev4) ?_
      refine ev_go hc_X10_ownedBy (k := 1) (pc' := 20) (L' := [.ref l0, .int l1, .int l2, .int l3]) (S' := [.int l3, .ref v4]) rfl ?_
      obtain ⟨v5, ev5, H⟩ := Option.bind_eq_some_iff.mp H
      refine ev_4 hc_X10_ownedBy (fe_X10_ownedBy (pc := 20) rfl) (rI_al ev5) ?_
      refine ev_go hc_X10_ownedBy (k := 1) (pc' := 22) (L' := [.ref l0, .int l1, .int l2, .int l3]) (S' := [.int l1, .int v5]) rfl ?_
      by_cases c6 : v5 = l1
      · rw [if_pos c6] at H
        refine ev_bt hc_X10_ownedBy (fe_X10_ownedBy (pc := 22) rfl) rfl c6 ?_
        refine ev_go hc_X10_ownedBy (k := 6) (pc' := 31) (L' := [.ref l0, .int l1, .int (l2 ||| ((1 : Int32) <<< (l3 &&& 31))), .int l3]) (S' := []) rfl ?_
        exact Ev.weak (ci_le_c (Or.inr rfl) (ci_le_c (Or.inr rfl) (ci_le_c (Or.inr rfl) (ci_le_c (Or.inr rfl) (ci_le_n))))) (eb_X10_ownedBy_31 ih H)
      · rw [if_neg c6] at H
        refine ev_bf hc_X10_ownedBy (fe_X10_ownedBy (pc := 22) rfl) rfl c6 ?_
        exact Ev.weak (ci_le_c (Or.inr rfl) (ci_le_c (Or.inr rfl) (ci_le_c (Or.inr rfl) (ci_le_c (Or.inr rfl) (ci_le_n))))) (eb_X10_ownedBy_31 ih H)
def F_X10_ownedBy (a0 : Nat) (a1 : Int32) (h : ci_H) : Option (Int32 × ci_H) := if kO h a0 = some 10 then (b_X10_ownedBy_4 a0 a1 bigN 0 0 h) else none
theorem K_X10_ownedBy {a0 : Nat} {a1 : Int32} {h : ci_H} {r : Int32 × ci_H} (H : F_X10_ownedBy a0 a1 h = some r) : kO h a0 = some 10 := by
  unfold F_X10_ownedBy at H
  by_cases c : kO h a0 = some 10
  · exact c
  · rw [if_neg c] at H; cases H
set_option maxHeartbeats 4000000 in
set_option maxRecDepth 20000 in
theorem E_X10_ownedBy {xs : Nat → Int32} {N d : Nat} {nx : ci_N} {a0 : Nat} {a1 : Int32} {h : ci_H} {r : Int32 × ci_H} (H : F_X10_ownedBy a0 a1 h = some r) (hd : 0 ≤ d) : Ev xs N d 76 0 (ci_entry [.ref a0, .int a1] 4) [] h nx (oI r nx) := by
  unfold F_X10_ownedBy at H
  by_cases ck : kO h a0 = some 10
  · rw [if_pos ck] at H
    show Ev xs N d 76 0 [.ref a0, .int a1, ci_junk, ci_junk] [] h nx _
    refine ev_go hc_X10_ownedBy (k := 4) (pc' := 4) (L' := [.ref a0, .int a1, .int 0, .int 0]) (S' := []) rfl ?_
    exact Ev.weak (ci_le_c (Or.inr rfl) (ci_le_c (Or.inr rfl) (ci_le_c (Or.inr rfl) (ci_le_c (Or.inr rfl) (ci_le_n))))) (eb_X10_ownedBy_4 bigN _ _ _ _ H)
  · rw [if_neg ck] at H; cases H
theorem hc_X10_nobodys : ci_code (ci_Ms 77) = k_X10_nobodys := rfl
theorem fe_X10_nobodys {pc : Nat} {w : Option ci_I} (h : (k_X10_nobodys)[pc]? = some w) : (k_X10_nobodys)[pc]? = some w := h
def F_X10_nobodys (a0 : Nat) (h : ci_H) : Option (Int32 × ci_H) := if kO h a0 = some 10 then ((F_X10_ownedBy a0 ((-1)) h).bind fun q1 => some (q1.1, q1.2)) else none
theorem K_X10_nobodys {a0 : Nat} {h : ci_H} {r : Int32 × ci_H} (H : F_X10_nobodys a0 h = some r) : kO h a0 = some 10 := by
  unfold F_X10_nobodys at H
  by_cases c : kO h a0 = some 10
  · exact c
  · rw [if_neg c] at H; cases H
set_option maxHeartbeats 4000000 in
set_option maxRecDepth 20000 in
theorem E_X10_nobodys {xs : Nat → Int32} {N d : Nat} {nx : ci_N} {a0 : Nat} {h : ci_H} {r : Int32 × ci_H} (H : F_X10_nobodys a0 h = some r) (hd : 1 ≤ d) : Ev xs N d 77 0 (ci_entry [.ref a0] 1) [] h nx (oI r nx) := by
  obtain ⟨d, rfl⟩ : ∃ d2, d = d2 + 1 := ⟨d - 1, by omega⟩
  have hd : 0 ≤ d := by omega
  unfold F_X10_nobodys at H
  by_cases ck : kO h a0 = some 10
  · rw [if_pos ck] at H
    show Ev xs N (d + 1) 77 0 [.ref a0] [] h nx _
    refine ev_go hc_X10_nobodys (k := 2) (pc' := 2) (L' := [.ref a0]) (S' := [.int ((-1)), .ref a0]) rfl ?_
    obtain ⟨q1, eq1, H⟩ := Option.bind_eq_some_iff.mp H
    refine ev_call (vs := [.ref a0, .int ((-1))]) (rest := []) (q := q_X10_ownedBy) hc_X10_nobodys (Or.inr rfl) (fe_X10_nobodys (pc := 2) rfl) ms_76 rfl rfl (Nat.le_of_ble_eq_true rfl) (kO_recv (K_X10_ownedBy eq1)) (E_X10_ownedBy eq1 (by omega)) rfl ?_
    show Ev xs N (d + 1) 77 5 [.ref a0] [.int q1.1] q1.2 nx _
    obtain rfl := Option.some.inj H
    exact ev_8 hc_X10_nobodys (fe_X10_nobodys (pc := 5) rfl) rfl
  · rw [if_neg ck] at H; cases H
theorem hc_X10_keptBy : ci_code (ci_Ms 75) = k_X10_keptBy := rfl
theorem fe_X10_keptBy {pc : Nat} {w : Option ci_I} (h : (k_X10_keptBy)[pc]? = some w) : (k_X10_keptBy)[pc]? = some w := h
def b_X10_keptBy_31 (r_4 : Int32 → Int32 → ci_H → Option (Int32 × ci_H)) (l0 : Nat) (l1 : Int32) (l2 : Int32) (l3 : Int32)  (h : ci_H) : Option (Int32 × ci_H) := r_4 l2 (l3 + 1) h
set_option maxHeartbeats 4000000 in
set_option maxRecDepth 20000 in
theorem eb_X10_keptBy_31 {xs : Nat → Int32} {N d : Nat} {nx : ci_N} {r_4 : Int32 → Int32 → ci_H → Option (Int32 × ci_H)} {l0 : Nat} {l1 : Int32} {l2 : Int32} {l3 : Int32} (h_4 : ∀ (l2 : Int32) (l3 : Int32) (h : ci_H) (r : Int32 × ci_H), r_4 l2 l3 h = some r → Ev xs N d 75 4 [.ref l0, .int l1, .int l2, .int l3] [] h nx (oI r nx)) {h : ci_H} {r : Int32 × ci_H} (H : b_X10_keptBy_31 r_4 l0 l1 l2 l3 h = some r) : Ev xs N d 75 31 [.ref l0, .int l1, .int l2, .int l3] [] h nx (oI r nx) := by
  unfold b_X10_keptBy_31 at H
  refine ev_go hc_X10_keptBy (k := 2) (pc' := 4) (L' := [.ref l0, .int l1, .int l2, .int (l3 + 1)]) (S' := []) rfl ?_
  exact Ev.weak (ci_le_c (Or.inr rfl) (ci_le_c (Or.inr rfl) (ci_le_c (Or.inr rfl) (ci_le_c (Or.inr rfl) (ci_le_n))))) (h_4 _ _ _ _ H)
def b_X10_keptBy_4 (l0 : Nat) (l1 : Int32) : Nat → Int32 → Int32 → ci_H → Option (Int32 × ci_H)
  | 0, _, _, _ => none
  | n + 1, l2, l3, h => (gI h l0 10 6).bind fun v1 => if v1 ≤ l3 then (some (l2, h)) else ((gR h l0 10 0).bind fun v3 => (gR h v3 6 1).bind fun v4 => (rI h v4 l3).bind fun v5 => if v5 = l1 then (b_X10_keptBy_31 (fun x0 x1 x2 => b_X10_keptBy_4 l0 l1 n x0 x1 x2) l0 l1 (l2 ||| ((1 : Int32) <<< (l3 &&& 31))) l3 h) else (b_X10_keptBy_31 (fun x0 x1 x2 => b_X10_keptBy_4 l0 l1 n x0 x1 x2) l0 l1 l2 l3 h))
set_option maxHeartbeats 4000000 in
set_option maxRecDepth 20000 in
theorem eb_X10_keptBy_4 {xs : Nat → Int32} {N d : Nat} {nx : ci_N} {l0 : Nat} {l1 : Int32} : ∀ (n : Nat) (l2 : Int32) (l3 : Int32) (h : ci_H) (r : Int32 × ci_H), b_X10_keptBy_4 l0 l1 n l2 l3 h = some r → Ev xs N d 75 4 [.ref l0, .int l1, .int l2, .int l3] [] h nx (oI r nx) := by
  intro n
  induction n with
  | zero => intro l2 l3 h r H; unfold b_X10_keptBy_4 at H; cases H
  | succ n ih =>
    intro l2 l3 h r H
    unfold b_X10_keptBy_4 at H
    refine ev_go hc_X10_keptBy (k := 2) (pc' := 6) (L' := [.ref l0, .int l1, .int l2, .int l3]) (S' := [.ref l0, .int l3]) rfl ?_
    obtain ⟨v1, ev1, H⟩ := Option.bind_eq_some_iff.mp H
    refine ev_4 hc_X10_keptBy (fe_X10_keptBy (pc := 6) rfl) (gI_gf ev1) ?_
    by_cases c2 : v1 ≤ l3
    · rw [if_pos c2] at H
      refine ev_bt hc_X10_keptBy (fe_X10_keptBy (pc := 9) rfl) rfl c2 ?_
      refine ev_go hc_X10_keptBy (k := 1) (pc' := 38) (L' := [.ref l0, .int l1, .int l2, .int l3]) (S' := [.int l2]) rfl ?_
      obtain rfl := Option.some.inj H
      exact ev_8 hc_X10_keptBy (fe_X10_keptBy (pc := 38) rfl) rfl
    · rw [if_neg c2] at H
      refine ev_bf hc_X10_keptBy (fe_X10_keptBy (pc := 9) rfl) rfl c2 ?_
      refine ev_go hc_X10_keptBy (k := 1) (pc' := 13) (L' := [.ref l0, .int l1, .int l2, .int l3]) (S' := [.ref l0]) rfl ?_
      obtain ⟨v3, ev3, H⟩ := Option.bind_eq_some_iff.mp H
      refine ev_4 hc_X10_keptBy (fe_X10_keptBy (pc := 13) rfl) (gR_gf ev3) ?_
      obtain ⟨v4, ev4, H⟩ := Option.bind_eq_some_iff.mp H
      refine ev_4 hc_X10_keptBy (fe_X10_keptBy (pc := 16) rfl) (gR_gf ev4) ?_
      refine ev_go hc_X10_keptBy (k := 1) (pc' := 20) (L' := [.ref l0, .int l1, .int l2, .int l3]) (S' := [.int l3, .ref v4]) rfl ?_
      obtain ⟨v5, ev5, H⟩ := Option.bind_eq_some_iff.mp H
      refine ev_4 hc_X10_keptBy (fe_X10_keptBy (pc := 20) rfl) (rI_al ev5) ?_
      refine ev_go hc_X10_keptBy (k := 1) (pc' := 22) (L' := [.ref l0, .int l1, .int l2, .int l3]) (S' := [.int l1, .int v5]) rfl ?_
      by_cases c6 : v5 = l1
      · rw [if_pos c6] at H
        refine ev_bt hc_X10_keptBy (fe_X10_keptBy (pc := 22) rfl) rfl c6 ?_
        refine ev_go hc_X10_keptBy (k := 6) (pc' := 31) (L' := [.ref l0, .int l1, .int (l2 ||| ((1 : Int32) <<< (l3 &&& 31))), .int l3]) (S' := []) rfl ?_
        exact Ev.weak (ci_le_c (Or.inr rfl) (ci_le_c (Or.inr rfl) (ci_le_c (Or.inr rfl) (ci_le_c (Or.inr rfl) (ci_le_n))))) (eb_X10_keptBy_31 ih H)
      · rw [if_neg c6] at H
        refine ev_bf hc_X10_keptBy (fe_X10_keptBy (pc := 22) rfl) rfl c6 ?_
        exact Ev.weak (ci_le_c (Or.inr rfl) (ci_le_c (Or.inr rfl) (ci_le_c (Or.inr rfl) (ci_le_c (Or.inr rfl) (ci_le_n))))) (eb_X10_keptBy_31 ih H)
def F_X10_keptBy (a0 : Nat) (a1 : Int32) (h : ci_H) : Option (Int32 × ci_H) := if kO h a0 = some 10 then (b_X10_keptBy_4 a0 a1 bigN 0 0 h) else none
theorem K_X10_keptBy {a0 : Nat} {a1 : Int32} {h : ci_H} {r : Int32 × ci_H} (H : F_X10_keptBy a0 a1 h = some r) : kO h a0 = some 10 := by
  unfold F_X10_keptBy at H
  by_cases c : kO h a0 = some 10
  · exact c
  · rw [if_neg c] at H; cases H
set_option maxHeartbeats 4000000 in
set_option maxRecDepth 20000 in
theorem E_X10_keptBy {xs : Nat → Int32} {N d : Nat} {nx : ci_N} {a0 : Nat} {a1 : Int32} {h : ci_H} {r : Int32 × ci_H} (H : F_X10_keptBy a0 a1 h = some r) (hd : 0 ≤ d) : Ev xs N d 75 0 (ci_entry [.ref a0, .int a1] 4) [] h nx (oI r nx) := by
  unfold F_X10_keptBy at H
  by_cases ck : kO h a0 = some 10
  · rw [if_pos ck] at H
    show Ev xs N d 75 0 [.ref a0, .int a1, ci_junk, ci_junk] [] h nx _
    refine ev_go hc_X10_keptBy (k := 4) (pc' := 4) (L' := [.ref a0, .int a1, .int 0, .int 0]) (S' := []) rfl ?_
    exact Ev.weak (ci_le_c (Or.inr rfl) (ci_le_c (Or.inr rfl) (ci_le_c (Or.inr rfl) (ci_le_c (Or.inr rfl) (ci_le_n))))) (eb_X10_keptBy_4 bigN _ _ _ _ H)
  · rw [if_neg ck] at H; cases H
theorem hc_X10_loadOf : ci_code (ci_Ms 82) = k_X10_loadOf := rfl
theorem fe_X10_loadOf {pc : Nat} {w : Option ci_I} (h : (k_X10_loadOf)[pc]? = some w) : (k_X10_loadOf)[pc]? = some w := h
def b_X10_loadOf_4 (l0 : Nat) (l1 : Int32) : Nat → Int32 → Int32 → ci_H → Option (Int32 × ci_H)
  | 0, _, _, _ => none
  | n + 1, l2, l3, h => (gI h l0 10 7).bind fun v1 => if v1 ≤ l3 then (some (l2, h)) else ((gI h l0 10 8).bind fun v3 => (gR h l0 10 3).bind fun v4 => (rI h v4 l3).bind fun v5 => (F_J6_bitCount_0f7a4 (l1 &&& v5) h).bind fun q6 => b_X10_loadOf_4 l0 l1 n (l2 ||| ((15 - (if 0 < (v3 - q6.1) then v3 - q6.1 else 0)) <<< ((5 * l3) &&& 31))) (l3 + 1) q6.2)
set_option maxHeartbeats 4000000 in
set_option maxRecDepth 20000 in
theorem eb_X10_loadOf_4 {xs : Nat → Int32} {N d : Nat} {nx : ci_N} {l0 : Nat} {l1 : Int32} (hd : 0 ≤ d) : ∀ (n : Nat) (l2 : Int32) (l3 : Int32) (h : ci_H) (r : Int32 × ci_H), b_X10_loadOf_4 l0 l1 n l2 l3 h = some r → Ev xs N (d + 1) 82 4 [.ref l0, .int l1, .int l2, .int l3, ci_junk] [] h nx (oI r nx) := by
  intro n
  induction n with
  | zero => intro l2 l3 h r H; unfold b_X10_loadOf_4 at H; cases H
  | succ n ih =>
    intro l2 l3 h r H
    unfold b_X10_loadOf_4 at H
    refine ev_go hc_X10_loadOf (k := 2) (pc' := 6) (L' := [.ref l0, .int l1, .int l2, .int l3, ci_junk]) (S' := [.ref l0, .int l3]) rfl ?_
    obtain ⟨v1, ev1, H⟩ := Option.bind_eq_some_iff.mp H
    refine ev_4 hc_X10_loadOf (fe_X10_loadOf (pc := 6) rfl) (gI_gf ev1) ?_
    by_cases c2 : v1 ≤ l3
    · rw [if_pos c2] at H
      refine ev_bt hc_X10_loadOf (fe_X10_loadOf (pc := 9) rfl) rfl c2 ?_
      refine ev_go hc_X10_loadOf (k := 1) (pc' := 53) (L' := [.ref l0, .int l1, .int l2, .int l3, ci_junk]) (S' := [.int l2]) rfl ?_
      obtain rfl := Option.some.inj H
      exact ev_8 hc_X10_loadOf (fe_X10_loadOf (pc := 53) rfl) rfl
    · rw [if_neg c2] at H
      refine ev_bf hc_X10_loadOf (fe_X10_loadOf (pc := 9) rfl) rfl c2 ?_
      refine ev_go hc_X10_loadOf (k := 2) (pc' := 14) (L' := [.ref l0, .int l1, .int l2, .int l3, ci_junk]) (S' := [.ref l0, .int 0]) rfl ?_
      obtain ⟨v3, ev3, H⟩ := Option.bind_eq_some_iff.mp H
      refine ev_4 hc_X10_loadOf (fe_X10_loadOf (pc := 14) rfl) (gI_gf ev3) ?_
      refine ev_go hc_X10_loadOf (k := 2) (pc' := 19) (L' := [.ref l0, .int l1, .int l2, .int l3, ci_junk]) (S' := [.ref l0, .int l1, .int v3, .int 0]) rfl ?_
      obtain ⟨v4, ev4, H⟩ := Option.bind_eq_some_iff.mp H
      refine ev_4 hc_X10_loadOf (fe_X10_loadOf (pc := 19) rfl) (gR_gf ev4) ?_
      refine ev_go hc_X10_loadOf (k := 1) (pc' := 23) (L' := [.ref l0, .int l1, .int l2, .int l3, ci_junk]) (S' := [.int l3, .ref v4, .int l1, .int v3, .int 0]) rfl ?_
      obtain ⟨v5, ev5, H⟩ := Option.bind_eq_some_iff.mp H
      refine ev_4 hc_X10_loadOf (fe_X10_loadOf (pc := 23) rfl) (rI_al ev5) ?_
      refine ev_go hc_X10_loadOf (k := 1) (pc' := 25) (L' := [.ref l0, .int l1, .int l2, .int l3, ci_junk]) (S' := [.int (l1 &&& v5), .int v3, .int 0]) rfl ?_
      obtain ⟨q6, eq6, H⟩ := Option.bind_eq_some_iff.mp H
      refine ev_call (vs := [.int (l1 &&& v5)]) (rest := [.int v3, .int 0]) (q := q_J6_bitCount_0f7a4) hc_X10_loadOf (Or.inl rfl) (fe_X10_loadOf (pc := 25) rfl) ms_285 rfl rfl (Nat.le_of_ble_eq_true rfl) rfl (E_J6_bitCount_0f7a4 eq6 (by omega)) rfl ?_
      show Ev xs N (d + 1) 82 28 [.ref l0, .int l1, .int l2, .int l3, ci_junk] [.int q6.1, .int v3, .int 0] q6.2 nx _
      refine ev_go hc_X10_loadOf (k := 1) (pc' := 29) (L' := [.ref l0, .int l1, .int l2, .int l3, ci_junk]) (S' := [.int (v3 - q6.1), .int 0]) rfl ?_
      refine ev_15 hc_X10_loadOf (fe_X10_loadOf (pc := 29) rfl) (S' := [.int (if 0 < (v3 - q6.1) then v3 - q6.1 else 0)]) rfl ?_
      refine ev_go hc_X10_loadOf (k := 13) (pc' := 4) (L' := [.ref l0, .int l1, .int (l2 ||| ((15 - (if 0 < (v3 - q6.1) then v3 - q6.1 else 0)) <<< ((5 * l3) &&& 31))), .int (l3 + 1), .int (if 0 < (v3 - q6.1) then v3 - q6.1 else 0)]) (S' := []) rfl ?_
      exact Ev.weak (ci_le_c (Or.inr rfl) (ci_le_c (Or.inr rfl) (ci_le_c (Or.inr rfl) (ci_le_c (Or.inr rfl) (ci_le_c (Or.inl rfl) (ci_le_n)))))) (ih _ _ _ _ H)
def F_X10_loadOf (a0 : Nat) (a1 : Int32) (h : ci_H) : Option (Int32 × ci_H) := if kO h a0 = some 10 then (b_X10_loadOf_4 a0 a1 bigN 0 0 h) else none
theorem K_X10_loadOf {a0 : Nat} {a1 : Int32} {h : ci_H} {r : Int32 × ci_H} (H : F_X10_loadOf a0 a1 h = some r) : kO h a0 = some 10 := by
  unfold F_X10_loadOf at H
  by_cases c : kO h a0 = some 10
  · exact c
  · rw [if_neg c] at H; cases H
set_option maxHeartbeats 4000000 in
set_option maxRecDepth 20000 in
theorem E_X10_loadOf {xs : Nat → Int32} {N d : Nat} {nx : ci_N} {a0 : Nat} {a1 : Int32} {h : ci_H} {r : Int32 × ci_H} (H : F_X10_loadOf a0 a1 h = some r) (hd : 1 ≤ d) : Ev xs N d 82 0 (ci_entry [.ref a0, .int a1] 5) [] h nx (oI r nx) := by
  obtain ⟨d, rfl⟩ : ∃ d2, d = d2 + 1 := ⟨d - 1, by omega⟩
  have hd : 0 ≤ d := by omega
  unfold F_X10_loadOf at H
  by_cases ck : kO h a0 = some 10
  · rw [if_pos ck] at H
    show Ev xs N (d + 1) 82 0 [.ref a0, .int a1, ci_junk, ci_junk, ci_junk] [] h nx _
    refine ev_go hc_X10_loadOf (k := 4) (pc' := 4) (L' := [.ref a0, .int a1, .int 0, .int 0, ci_junk]) (S' := []) rfl ?_
    exact Ev.weak (ci_le_c (Or.inr rfl) (ci_le_c (Or.inr rfl) (ci_le_c (Or.inr rfl) (ci_le_c (Or.inr rfl) (ci_le_c (Or.inl rfl) (ci_le_n)))))) (eb_X10_loadOf_4 hd bigN _ _ _ _ H)
  · rw [if_neg ck] at H; cases H
theorem hc_X10_kindsOf : ci_code (ci_Ms 73) = k_X10_kindsOf := rfl
theorem fe_X10_kindsOf {pc : Nat} {w : Option ci_I} (h : (k_X10_kindsOf)[pc]? = some w) : (k_X10_kindsOf)[pc]? = some w := h
def b_X10_kindsOf_4 (l0 : Nat) (l1 : Int32) : Nat → Int32 → Int32 → ci_H → Option (Int32 × ci_H)
  | 0, _, _, _ => none
  | n + 1, l2, l3, h => (gI h l0 10 7).bind fun v1 => if v1 ≤ l3 then (some (l2, h)) else ((gR h l0 10 3).bind fun v3 => (rI h v3 l3).bind fun v4 => b_X10_kindsOf_4 l0 l1 n (l2 ||| (((v4 >>> (l1 &&& 31)) &&& 1) <<< (l3 &&& 31))) (l3 + 1) h)
set_option maxHeartbeats 4000000 in
set_option maxRecDepth 20000 in
theorem eb_X10_kindsOf_4 {xs : Nat → Int32} {N d : Nat} {nx : ci_N} {l0 : Nat} {l1 : Int32} : ∀ (n : Nat) (l2 : Int32) (l3 : Int32) (h : ci_H) (r : Int32 × ci_H), b_X10_kindsOf_4 l0 l1 n l2 l3 h = some r → Ev xs N d 73 4 [.ref l0, .int l1, .int l2, .int l3] [] h nx (oI r nx) := by
  intro n
  induction n with
  | zero => intro l2 l3 h r H; unfold b_X10_kindsOf_4 at H; cases H
  | succ n ih =>
    intro l2 l3 h r H
    unfold b_X10_kindsOf_4 at H
    refine ev_go hc_X10_kindsOf (k := 2) (pc' := 6) (L' := [.ref l0, .int l1, .int l2, .int l3]) (S' := [.ref l0, .int l3]) rfl ?_
    obtain ⟨v1, ev1, H⟩ := Option.bind_eq_some_iff.mp H
    refine ev_4 hc_X10_kindsOf (fe_X10_kindsOf (pc := 6) rfl) (gI_gf ev1) ?_
    by_cases c2 : v1 ≤ l3
    · rw [if_pos c2] at H
      refine ev_bt hc_X10_kindsOf (fe_X10_kindsOf (pc := 9) rfl) rfl c2 ?_
      refine ev_go hc_X10_kindsOf (k := 1) (pc' := 34) (L' := [.ref l0, .int l1, .int l2, .int l3]) (S' := [.int l2]) rfl ?_
      obtain rfl := Option.some.inj H
      exact ev_8 hc_X10_kindsOf (fe_X10_kindsOf (pc := 34) rfl) rfl
    · rw [if_neg c2] at H
      refine ev_bf hc_X10_kindsOf (fe_X10_kindsOf (pc := 9) rfl) rfl c2 ?_
      refine ev_go hc_X10_kindsOf (k := 2) (pc' := 14) (L' := [.ref l0, .int l1, .int l2, .int l3]) (S' := [.ref l0, .int l2]) rfl ?_
      obtain ⟨v3, ev3, H⟩ := Option.bind_eq_some_iff.mp H
      refine ev_4 hc_X10_kindsOf (fe_X10_kindsOf (pc := 14) rfl) (gR_gf ev3) ?_
      refine ev_go hc_X10_kindsOf (k := 1) (pc' := 18) (L' := [.ref l0, .int l1, .int l2, .int l3]) (S' := [.int l3, .ref v3, .int l2]) rfl ?_
      obtain ⟨v4, ev4, H⟩ := Option.bind_eq_some_iff.mp H
      refine ev_4 hc_X10_kindsOf (fe_X10_kindsOf (pc := 18) rfl) (rI_al ev4) ?_
      refine ev_go hc_X10_kindsOf (k := 10) (pc' := 4) (L' := [.ref l0, .int l1, .int (l2 ||| (((v4 >>> (l1 &&& 31)) &&& 1) <<< (l3 &&& 31))), .int (l3 + 1)]) (S' := []) rfl ?_
      exact Ev.weak (ci_le_c (Or.inr rfl) (ci_le_c (Or.inr rfl) (ci_le_c (Or.inr rfl) (ci_le_c (Or.inr rfl) (ci_le_n))))) (ih _ _ _ _ H)
def F_X10_kindsOf (a0 : Nat) (a1 : Int32) (h : ci_H) : Option (Int32 × ci_H) := if kO h a0 = some 10 then (b_X10_kindsOf_4 a0 a1 bigN 0 0 h) else none
theorem K_X10_kindsOf {a0 : Nat} {a1 : Int32} {h : ci_H} {r : Int32 × ci_H} (H : F_X10_kindsOf a0 a1 h = some r) : kO h a0 = some 10 := by
  unfold F_X10_kindsOf at H
  by_cases c : kO h a0 = some 10
  · exact c
  · rw [if_neg c] at H; cases H
set_option maxHeartbeats 4000000 in
set_option maxRecDepth 20000 in
theorem E_X10_kindsOf {xs : Nat → Int32} {N d : Nat} {nx : ci_N} {a0 : Nat} {a1 : Int32} {h : ci_H} {r : Int32 × ci_H} (H : F_X10_kindsOf a0 a1 h = some r) (hd : 0 ≤ d) : Ev xs N d 73 0 (ci_entry [.ref a0, .int a1] 4) [] h nx (oI r nx) := by
  unfold F_X10_kindsOf at H
  by_cases ck : kO h a0 = some 10
  · rw [if_pos ck] at H
    show Ev xs N d 73 0 [.ref a0, .int a1, ci_junk, ci_junk] [] h nx _
    refine ev_go hc_X10_kindsOf (k := 4) (pc' := 4) (L' := [.ref a0, .int a1, .int 0, .int 0]) (S' := []) rfl ?_
    exact Ev.weak (ci_le_c (Or.inr rfl) (ci_le_c (Or.inr rfl) (ci_le_c (Or.inr rfl) (ci_le_c (Or.inr rfl) (ci_le_n))))) (eb_X10_kindsOf_4 bigN _ _ _ _ H)
  · rw [if_neg ck] at H; cases H
theorem hc_X4_letter : ci_code (ci_Ms 29) = k_X4_letter := rfl
theorem fe_X4_letter {pc : Nat} {w : Option ci_I} (h : (k_X4_letter)[pc]? = some w) : (k_X4_letter)[pc]? = some w := h
def F_X4_letter (a0 : Int32) (a1 : Nat) (a2 : Int32) (a3 : Int32) (h : ci_H) : Option (Int32 × ci_H) := if a0 = 104 then (some (a3, h)) else if a0 = 105 then (some (a2, h)) else if a0 = 106 then ((gR h a1 10 0).bind fun v4 => (gR h v4 6 0).bind fun v5 => (rI h v5 a2).bind fun v6 => if v6 = a3 then (some (1, h)) else (some (0, h))) else if a0 = 107 then ((F_X10_kindsOf a1 a2 h).bind fun q9 => (F_J6_bitCount_0f7a4 q9.1 q9.2).bind fun q10 => some (q10.1, q10.2)) else if a0 = 108 then ((gR h a1 10 0).bind fun v12 => (gR h v12 6 0).bind fun v13 => (rI h v13 a2).bind fun v14 => if v14 = a3 then (some (1, h)) else (some (0, h))) else if a0 = 109 then ((gR h a1 10 0).bind fun v17 => (gR h v17 6 0).bind fun v18 => (rI h v18 a2).bind fun v19 => if v19 = a3 then (some (1, h)) else (some (0, h))) else if a0 = 110 then ((F_X10_keptBy a1 a3 h).bind fun q22 => (F_J6_bitCount_0f7a4 q22.1 q22.2).bind fun q23 => some (q23.1, q23.2)) else if a0 = 111 then ((gR h a1 10 0).bind fun v25 => (gR h v25 6 0).bind fun v26 => (rI h v26 a2).bind fun v27 => if v27 = a3 then (some (1, h)) else (some (0, h))) else if a0 = 112 then ((gR h a1 10 0).bind fun v30 => (gR h v30 6 0).bind fun v31 => (rI h v31 a2).bind fun v32 => if v32 = a3 then (some (1, h)) else (some (0, h))) else if a0 = 113 then ((gR h a1 10 0).bind fun v35 => (gR h v35 6 0).bind fun v36 => (rI h v36 a2).bind fun v37 => if v37 = a3 then (some (1, h)) else (some (0, h))) else if a0 = 114 then ((gR h a1 10 0).bind fun v40 => (gR h v40 6 0).bind fun v41 => (rI h v41 a2).bind fun v42 => if v42 = a3 then (some (1, h)) else (some (0, h))) else if a0 = 115 then ((gR h a1 10 0).bind fun v45 => (gR h v45 6 0).bind fun v46 => (rI h v46 a2).bind fun v47 => if v47 = a3 then (some (1, h)) else (some (0, h))) else if a0 = 116 then ((gR h a1 10 0).bind fun v50 => (gR h v50 6 2).bind fun v51 => (rI h v51 a2).bind fun v52 => (F_J6_bitCount_0f7a4 v52 h).bind fun q53 => some (q53.1, q53.2)) else ((gR h a1 10 0).bind fun v54 => (gR h v54 6 0).bind fun v55 => (rI h v55 a2).bind fun v56 => if v56 = a3 then (some (1, h)) else (some (0, h)))
set_option maxHeartbeats 4000000 in
set_option maxRecDepth 20000 in
theorem E_X4_letter {xs : Nat → Int32} {N d : Nat} {nx : ci_N} {a0 : Int32} {a1 : Nat} {a2 : Int32} {a3 : Int32} {h : ci_H} {r : Int32 × ci_H} (H : F_X4_letter a0 a1 a2 a3 h = some r) (hd : 1 ≤ d) : Ev xs N d 29 0 (ci_entry [.int a0, .ref a1, .int a2, .int a3] 4) [] h nx (oI r nx) := by
  obtain ⟨d, rfl⟩ : ∃ d2, d = d2 + 1 := ⟨d - 1, by omega⟩
  have hd : 0 ≤ d := by omega
  unfold F_X4_letter at H
  show Ev xs N (d + 1) 29 0 [.int a0, .ref a1, .int a2, .int a3] [] h nx _
  refine ev_go hc_X4_letter (k := 1) (pc' := 1) (L' := [.int a0, .ref a1, .int a2, .int a3]) (S' := [.int a0]) rfl ?_
  by_cases c1 : a0 = 104
  · rw [if_pos c1] at H
    refine ev_3 hc_X4_letter (fe_X4_letter (pc := 1) rfl) (pc' := 90) (S' := []) (by rw [c1]; rfl) ?_
    refine ev_go hc_X4_letter (k := 1) (pc' := 91) (L' := [.int a0, .ref a1, .int a2, .int a3]) (S' := [.int a3]) rfl ?_
    obtain rfl := Option.some.inj H
    exact ev_8 hc_X4_letter (fe_X4_letter (pc := 91) rfl) rfl
  rw [if_neg c1] at H
  by_cases c2 : a0 = 105
  · rw [if_pos c2] at H
    refine ev_3 hc_X4_letter (fe_X4_letter (pc := 1) rfl) (pc' := 101) (S' := []) (by rw [c2]; rfl) ?_
    refine ev_go hc_X4_letter (k := 1) (pc' := 102) (L' := [.int a0, .ref a1, .int a2, .int a3]) (S' := [.int a2]) rfl ?_
    obtain rfl := Option.some.inj H
    exact ev_8 hc_X4_letter (fe_X4_letter (pc := 102) rfl) rfl
  rw [if_neg c2] at H
  by_cases c3 : a0 = 106
  · rw [if_pos c3] at H
    refine ev_3 hc_X4_letter (fe_X4_letter (pc := 1) rfl) (pc' := 103) (S' := []) (by rw [c3]; rfl) ?_
    refine ev_go hc_X4_letter (k := 1) (pc' := 104) (L' := [.int a0, .ref a1, .int a2, .int a3]) (S' := [.ref a1]) rfl ?_
    obtain ⟨v4, ev4, H⟩ := Option.bind_eq_some_iff.mp H
    refine ev_4 hc_X4_letter (fe_X4_letter (pc := 104) rfl) (gR_gf ev4) ?_
    obtain ⟨v5, ev5, H⟩ := Option.bind_eq_some_iff.mp H
    refine ev_4 hc_X4_letter (fe_X4_letter (pc := 107) rfl) (gR_gf ev5) ?_
    refine ev_go hc_X4_letter (k := 1) (pc' := 111) (L' := [.int a0, .ref a1, .int a2, .int a3]) (S' := [.int a2, .ref v5]) rfl ?_
    obtain ⟨v6, ev6, H⟩ := Option.bind_eq_some_iff.mp H
    refine ev_4 hc_X4_letter (fe_X4_letter (pc := 111) rfl) (rI_al ev6) ?_
    refine ev_go hc_X4_letter (k := 1) (pc' := 113) (L' := [.int a0, .ref a1, .int a2, .int a3]) (S' := [.int a3, .int v6]) rfl ?_
    by_cases c7 : v6 = a3
    · rw [if_pos c7] at H
      refine ev_bt hc_X4_letter (fe_X4_letter (pc := 113) rfl) rfl c7 ?_
      refine ev_go hc_X4_letter (k := 2) (pc' := 121) (L' := [.int a0, .ref a1, .int a2, .int a3]) (S' := [.int 1]) rfl ?_
      obtain rfl := Option.some.inj H
      exact ev_8 hc_X4_letter (fe_X4_letter (pc := 121) rfl) rfl
    · rw [if_neg c7] at H
      refine ev_bf hc_X4_letter (fe_X4_letter (pc := 113) rfl) rfl c7 ?_
      refine ev_go hc_X4_letter (k := 1) (pc' := 121) (L' := [.int a0, .ref a1, .int a2, .int a3]) (S' := [.int 0]) rfl ?_
      obtain rfl := Option.some.inj H
      exact ev_8 hc_X4_letter (fe_X4_letter (pc := 121) rfl) rfl
  rw [if_neg c3] at H
  by_cases c8 : a0 = 107
  · rw [if_pos c8] at H
    refine ev_3 hc_X4_letter (fe_X4_letter (pc := 1) rfl) (pc' := 81) (S' := []) (by rw [c8]; rfl) ?_
    refine ev_go hc_X4_letter (k := 2) (pc' := 83) (L' := [.int a0, .ref a1, .int a2, .int a3]) (S' := [.int a2, .ref a1]) rfl ?_
    obtain ⟨q9, eq9, H⟩ := Option.bind_eq_some_iff.mp H
    refine ev_call (vs := [.ref a1, .int a2]) (rest := []) (q := q_X10_kindsOf) hc_X4_letter (Or.inr rfl) (fe_X4_letter (pc := 83) rfl) ms_73 rfl rfl (Nat.le_of_ble_eq_true rfl) (kO_recv (K_X10_kindsOf eq9)) (E_X10_kindsOf eq9 (by omega)) rfl ?_
    show Ev xs N (d + 1) 29 86 [.int a0, .ref a1, .int a2, .int a3] [.int q9.1] q9.2 nx _
    obtain ⟨q10, eq10, H⟩ := Option.bind_eq_some_iff.mp H
    refine ev_call (vs := [.int q9.1]) (rest := []) (q := q_J6_bitCount_0f7a4) hc_X4_letter (Or.inl rfl) (fe_X4_letter (pc := 86) rfl) ms_285 rfl rfl (Nat.le_of_ble_eq_true rfl) rfl (E_J6_bitCount_0f7a4 eq10 (by omega)) rfl ?_
    show Ev xs N (d + 1) 29 89 [.int a0, .ref a1, .int a2, .int a3] [.int q10.1] q10.2 nx _
    obtain rfl := Option.some.inj H
    exact ev_8 hc_X4_letter (fe_X4_letter (pc := 89) rfl) rfl
  rw [if_neg c8] at H
  by_cases c11 : a0 = 108
  · rw [if_pos c11] at H
    refine ev_3 hc_X4_letter (fe_X4_letter (pc := 1) rfl) (pc' := 103) (S' := []) (by rw [c11]; rfl) ?_
    refine ev_go hc_X4_letter (k := 1) (pc' := 104) (L' := [.int a0, .ref a1, .int a2, .int a3]) (S' := [.ref a1]) rfl ?_
    obtain ⟨v12, ev12, H⟩ := Option.bind_eq_some_iff.mp H
    refine ev_4 hc_X4_letter (fe_X4_letter (pc := 104) rfl) (gR_gf ev12) ?_
    obtain ⟨v13, ev13, H⟩ := Option.bind_eq_some_iff.mp H
    refine ev_4 hc_X4_letter (fe_X4_letter (pc := 107) rfl) (gR_gf ev13) ?_
    refine ev_go hc_X4_letter (k := 1) (pc' := 111) (L' := [.int a0, .ref a1, .int a2, .int a3]) (S' := [.int a2, .ref v13]) rfl ?_
    obtain ⟨v14, ev14, H⟩ := Option.bind_eq_some_iff.mp H
    refine ev_4 hc_X4_letter (fe_X4_letter (pc := 111) rfl) (rI_al ev14) ?_
    refine ev_go hc_X4_letter (k := 1) (pc' := 113) (L' := [.int a0, .ref a1, .int a2, .int a3]) (S' := [.int a3, .int v14]) rfl ?_
    by_cases c15 : v14 = a3
    · rw [if_pos c15] at H
      refine ev_bt hc_X4_letter (fe_X4_letter (pc := 113) rfl) rfl c15 ?_
      refine ev_go hc_X4_letter (k := 2) (pc' := 121) (L' := [.int a0, .ref a1, .int a2, .int a3]) (S' := [.int 1]) rfl ?_
      obtain rfl := Option.some.inj H
      exact ev_8 hc_X4_letter (fe_X4_letter (pc := 121) rfl) rfl
    · rw [if_neg c15] at H
      refine ev_bf hc_X4_letter (fe_X4_letter (pc := 113) rfl) rfl c15 ?_
      refine ev_go hc_X4_letter (k := 1) (pc' := 121) (L' := [.int a0, .ref a1, .int a2, .int a3]) (S' := [.int 0]) rfl ?_
      obtain rfl := Option.some.inj H
      exact ev_8 hc_X4_letter (fe_X4_letter (pc := 121) rfl) rfl
  rw [if_neg c11] at H
  by_cases c16 : a0 = 109
  · rw [if_pos c16] at H
    refine ev_3 hc_X4_letter (fe_X4_letter (pc := 1) rfl) (pc' := 103) (S' := []) (by rw [c16]; rfl) ?_
    refine ev_go hc_X4_letter (k := 1) (pc' := 104) (L' := [.int a0, .ref a1, .int a2, .int a3]) (S' := [.ref a1]) rfl ?_
    obtain ⟨v17, ev17, H⟩ := Option.bind_eq_some_iff.mp H
    refine ev_4 hc_X4_letter (fe_X4_letter (pc := 104) rfl) (gR_gf ev17) ?_
    obtain ⟨v18, ev18, H⟩ := Option.bind_eq_some_iff.mp H
    refine ev_4 hc_X4_letter (fe_X4_letter (pc := 107) rfl) (gR_gf ev18) ?_
    refine ev_go hc_X4_letter (k := 1) (pc' := 111) (L' := [.int a0, .ref a1, .int a2, .int a3]) (S' := [.int a2, .ref v18]) rfl ?_
    obtain ⟨v19, ev19, H⟩ := Option.bind_eq_some_iff.mp H
    refine ev_4 hc_X4_letter (fe_X4_letter (pc := 111) rfl) (rI_al ev19) ?_
    refine ev_go hc_X4_letter (k := 1) (pc' := 113) (L' := [.int a0, .ref a1, .int a2, .int a3]) (S' := [.int a3, .int v19]) rfl ?_
    by_cases c20 : v19 = a3
    · rw [if_pos c20] at H
      refine ev_bt hc_X4_letter (fe_X4_letter (pc := 113) rfl) rfl c20 ?_
      refine ev_go hc_X4_letter (k := 2) (pc' := 121) (L' := [.int a0, .ref a1, .int a2, .int a3]) (S' := [.int 1]) rfl ?_
      obtain rfl := Option.some.inj H
      exact ev_8 hc_X4_letter (fe_X4_letter (pc := 121) rfl) rfl
    · rw [if_neg c20] at H
      refine ev_bf hc_X4_letter (fe_X4_letter (pc := 113) rfl) rfl c20 ?_
      refine ev_go hc_X4_letter (k := 1) (pc' := 121) (L' := [.int a0, .ref a1, .int a2, .int a3]) (S' := [.int 0]) rfl ?_
      obtain rfl := Option.some.inj H
      exact ev_8 hc_X4_letter (fe_X4_letter (pc := 121) rfl) rfl
  rw [if_neg c16] at H
  by_cases c21 : a0 = 110
  · rw [if_pos c21] at H
    refine ev_3 hc_X4_letter (fe_X4_letter (pc := 1) rfl) (pc' := 92) (S' := []) (by rw [c21]; rfl) ?_
    refine ev_go hc_X4_letter (k := 2) (pc' := 94) (L' := [.int a0, .ref a1, .int a2, .int a3]) (S' := [.int a3, .ref a1]) rfl ?_
    obtain ⟨q22, eq22, H⟩ := Option.bind_eq_some_iff.mp H
    refine ev_call (vs := [.ref a1, .int a3]) (rest := []) (q := q_X10_keptBy) hc_X4_letter (Or.inr rfl) (fe_X4_letter (pc := 94) rfl) ms_75 rfl rfl (Nat.le_of_ble_eq_true rfl) (kO_recv (K_X10_keptBy eq22)) (E_X10_keptBy eq22 (by omega)) rfl ?_
    show Ev xs N (d + 1) 29 97 [.int a0, .ref a1, .int a2, .int a3] [.int q22.1] q22.2 nx _
    obtain ⟨q23, eq23, H⟩ := Option.bind_eq_some_iff.mp H
    refine ev_call (vs := [.int q22.1]) (rest := []) (q := q_J6_bitCount_0f7a4) hc_X4_letter (Or.inl rfl) (fe_X4_letter (pc := 97) rfl) ms_285 rfl rfl (Nat.le_of_ble_eq_true rfl) rfl (E_J6_bitCount_0f7a4 eq23 (by omega)) rfl ?_
    show Ev xs N (d + 1) 29 100 [.int a0, .ref a1, .int a2, .int a3] [.int q23.1] q23.2 nx _
    obtain rfl := Option.some.inj H
    exact ev_8 hc_X4_letter (fe_X4_letter (pc := 100) rfl) rfl
  rw [if_neg c21] at H
  by_cases c24 : a0 = 111
  · rw [if_pos c24] at H
    refine ev_3 hc_X4_letter (fe_X4_letter (pc := 1) rfl) (pc' := 103) (S' := []) (by rw [c24]; rfl) ?_
    refine ev_go hc_X4_letter (k := 1) (pc' := 104) (L' := [.int a0, .ref a1, .int a2, .int a3]) (S' := [.ref a1]) rfl ?_
    obtain ⟨v25, ev25, H⟩ := Option.bind_eq_some_iff.mp H
    refine ev_4 hc_X4_letter (fe_X4_letter (pc := 104) rfl) (gR_gf ev25) ?_
    obtain ⟨v26, ev26, H⟩ := Option.bind_eq_some_iff.mp H
    refine ev_4 hc_X4_letter (fe_X4_letter (pc := 107) rfl) (gR_gf ev26) ?_
    refine ev_go hc_X4_letter (k := 1) (pc' := 111) (L' := [.int a0, .ref a1, .int a2, .int a3]) (S' := [.int a2, .ref v26]) rfl ?_
    obtain ⟨v27, ev27, H⟩ := Option.bind_eq_some_iff.mp H
    refine ev_4 hc_X4_letter (fe_X4_letter (pc := 111) rfl) (rI_al ev27) ?_
    refine ev_go hc_X4_letter (k := 1) (pc' := 113) (L' := [.int a0, .ref a1, .int a2, .int a3]) (S' := [.int a3, .int v27]) rfl ?_
    by_cases c28 : v27 = a3
    · rw [if_pos c28] at H
      refine ev_bt hc_X4_letter (fe_X4_letter (pc := 113) rfl) rfl c28 ?_
      refine ev_go hc_X4_letter (k := 2) (pc' := 121) (L' := [.int a0, .ref a1, .int a2, .int a3]) (S' := [.int 1]) rfl ?_
      obtain rfl := Option.some.inj H
      exact ev_8 hc_X4_letter (fe_X4_letter (pc := 121) rfl) rfl
    · rw [if_neg c28] at H
      refine ev_bf hc_X4_letter (fe_X4_letter (pc := 113) rfl) rfl c28 ?_
      refine ev_go hc_X4_letter (k := 1) (pc' := 121) (L' := [.int a0, .ref a1, .int a2, .int a3]) (S' := [.int 0]) rfl ?_
      obtain rfl := Option.some.inj H
      exact ev_8 hc_X4_letter (fe_X4_letter (pc := 121) rfl) rfl
  rw [if_neg c24] at H
  by_cases c29 : a0 = 112
  · rw [if_pos c29] at H
    refine ev_3 hc_X4_letter (fe_X4_letter (pc := 1) rfl) (pc' := 103) (S' := []) (by rw [c29]; rfl) ?_
    refine ev_go hc_X4_letter (k := 1) (pc' := 104) (L' := [.int a0, .ref a1, .int a2, .int a3]) (S' := [.ref a1]) rfl ?_
    obtain ⟨v30, ev30, H⟩ := Option.bind_eq_some_iff.mp H
    refine ev_4 hc_X4_letter (fe_X4_letter (pc := 104) rfl) (gR_gf ev30) ?_
    obtain ⟨v31, ev31, H⟩ := Option.bind_eq_some_iff.mp H
    refine ev_4 hc_X4_letter (fe_X4_letter (pc := 107) rfl) (gR_gf ev31) ?_
    refine ev_go hc_X4_letter (k := 1) (pc' := 111) (L' := [.int a0, .ref a1, .int a2, .int a3]) (S' := [.int a2, .ref v31]) rfl ?_
    obtain ⟨v32, ev32, H⟩ := Option.bind_eq_some_iff.mp H
    refine ev_4 hc_X4_letter (fe_X4_letter (pc := 111) rfl) (rI_al ev32) ?_
    refine ev_go hc_X4_letter (k := 1) (pc' := 113) (L' := [.int a0, .ref a1, .int a2, .int a3]) (S' := [.int a3, .int v32]) rfl ?_
    by_cases c33 : v32 = a3
    · rw [if_pos c33] at H
      refine ev_bt hc_X4_letter (fe_X4_letter (pc := 113) rfl) rfl c33 ?_
      refine ev_go hc_X4_letter (k := 2) (pc' := 121) (L' := [.int a0, .ref a1, .int a2, .int a3]) (S' := [.int 1]) rfl ?_
      obtain rfl := Option.some.inj H
      exact ev_8 hc_X4_letter (fe_X4_letter (pc := 121) rfl) rfl
    · rw [if_neg c33] at H
      refine ev_bf hc_X4_letter (fe_X4_letter (pc := 113) rfl) rfl c33 ?_
      refine ev_go hc_X4_letter (k := 1) (pc' := 121) (L' := [.int a0, .ref a1, .int a2, .int a3]) (S' := [.int 0]) rfl ?_
      obtain rfl := Option.some.inj H
      exact ev_8 hc_X4_letter (fe_X4_letter (pc := 121) rfl) rfl
  rw [if_neg c29] at H
  by_cases c34 : a0 = 113
  · rw [if_pos c34] at H
    refine ev_3 hc_X4_letter (fe_X4_letter (pc := 1) rfl) (pc' := 103) (S' := []) (by rw [c34]; rfl) ?_
    refine ev_go hc_X4_letter (k := 1) (pc' := 104) (L' := [.int a0, .ref a1, .int a2, .int a3]) (S' := [.ref a1]) rfl ?_
    obtain ⟨v35, ev35, H⟩ := Option.bind_eq_some_iff.mp H
    refine ev_4 hc_X4_letter (fe_X4_letter (pc := 104) rfl) (gR_gf ev35) ?_
    obtain ⟨v36, ev36, H⟩ := Option.bind_eq_some_iff.mp H
    refine ev_4 hc_X4_letter (fe_X4_letter (pc := 107) rfl) (gR_gf ev36) ?_
    refine ev_go hc_X4_letter (k := 1) (pc' := 111) (L' := [.int a0, .ref a1, .int a2, .int a3]) (S' := [.int a2, .ref v36]) rfl ?_
    obtain ⟨v37, ev37, H⟩ := Option.bind_eq_some_iff.mp H
    refine ev_4 hc_X4_letter (fe_X4_letter (pc := 111) rfl) (rI_al ev37) ?_
    refine ev_go hc_X4_letter (k := 1) (pc' := 113) (L' := [.int a0, .ref a1, .int a2, .int a3]) (S' := [.int a3, .int v37]) rfl ?_
    by_cases c38 : v37 = a3
    · rw [if_pos c38] at H
      refine ev_bt hc_X4_letter (fe_X4_letter (pc := 113) rfl) rfl c38 ?_
      refine ev_go hc_X4_letter (k := 2) (pc' := 121) (L' := [.int a0, .ref a1, .int a2, .int a3]) (S' := [.int 1]) rfl ?_
      obtain rfl := Option.some.inj H
      exact ev_8 hc_X4_letter (fe_X4_letter (pc := 121) rfl) rfl
    · rw [if_neg c38] at H
      refine ev_bf hc_X4_letter (fe_X4_letter (pc := 113) rfl) rfl c38 ?_
      refine ev_go hc_X4_letter (k := 1) (pc' := 121) (L' := [.int a0, .ref a1, .int a2, .int a3]) (S' := [.int 0]) rfl ?_
      obtain rfl := Option.some.inj H
      exact ev_8 hc_X4_letter (fe_X4_letter (pc := 121) rfl) rfl
  rw [if_neg c34] at H
  by_cases c39 : a0 = 114
  · rw [if_pos c39] at H
    refine ev_3 hc_X4_letter (fe_X4_letter (pc := 1) rfl) (pc' := 103) (S' := []) (by rw [c39]; rfl) ?_
    refine ev_go hc_X4_letter (k := 1) (pc' := 104) (L' := [.int a0, .ref a1, .int a2, .int a3]) (S' := [.ref a1]) rfl ?_
    obtain ⟨v40, ev40, H⟩ := Option.bind_eq_some_iff.mp H
    refine ev_4 hc_X4_letter (fe_X4_letter (pc := 104) rfl) (gR_gf ev40) ?_
    obtain ⟨v41, ev41, H⟩ := Option.bind_eq_some_iff.mp H
    refine ev_4 hc_X4_letter (fe_X4_letter (pc := 107) rfl) (gR_gf ev41) ?_
    refine ev_go hc_X4_letter (k := 1) (pc' := 111) (L' := [.int a0, .ref a1, .int a2, .int a3]) (S' := [.int a2, .ref v41]) rfl ?_
    obtain ⟨v42, ev42, H⟩ := Option.bind_eq_some_iff.mp H
    refine ev_4 hc_X4_letter (fe_X4_letter (pc := 111) rfl) (rI_al ev42) ?_
    refine ev_go hc_X4_letter (k := 1) (pc' := 113) (L' := [.int a0, .ref a1, .int a2, .int a3]) (S' := [.int a3, .int v42]) rfl ?_
    by_cases c43 : v42 = a3
    · rw [if_pos c43] at H
      refine ev_bt hc_X4_letter (fe_X4_letter (pc := 113) rfl) rfl c43 ?_
      refine ev_go hc_X4_letter (k := 2) (pc' := 121) (L' := [.int a0, .ref a1, .int a2, .int a3]) (S' := [.int 1]) rfl ?_
      obtain rfl := Option.some.inj H
      exact ev_8 hc_X4_letter (fe_X4_letter (pc := 121) rfl) rfl
    · rw [if_neg c43] at H
      refine ev_bf hc_X4_letter (fe_X4_letter (pc := 113) rfl) rfl c43 ?_
      refine ev_go hc_X4_letter (k := 1) (pc' := 121) (L' := [.int a0, .ref a1, .int a2, .int a3]) (S' := [.int 0]) rfl ?_
      obtain rfl := Option.some.inj H
      exact ev_8 hc_X4_letter (fe_X4_letter (pc := 121) rfl) rfl
  rw [if_neg c39] at H
  by_cases c44 : a0 = 115
  · rw [if_pos c44] at H
    refine ev_3 hc_X4_letter (fe_X4_letter (pc := 1) rfl) (pc' := 103) (S' := []) (by rw [c44]; rfl) ?_
    refine ev_go hc_X4_letter (k := 1) (pc' := 104) (L' := [.int a0, .ref a1, .int a2, .int a3]) (S' := [.ref a1]) rfl ?_
    obtain ⟨v45, ev45, H⟩ := Option.bind_eq_some_iff.mp H
    refine ev_4 hc_X4_letter (fe_X4_letter (pc := 104) rfl) (gR_gf ev45) ?_
    obtain ⟨v46, ev46, H⟩ := Option.bind_eq_some_iff.mp H
    refine ev_4 hc_X4_letter (fe_X4_letter (pc := 107) rfl) (gR_gf ev46) ?_
    refine ev_go hc_X4_letter (k := 1) (pc' := 111) (L' := [.int a0, .ref a1, .int a2, .int a3]) (S' := [.int a2, .ref v46]) rfl ?_
    obtain ⟨v47, ev47, H⟩ := Option.bind_eq_some_iff.mp H
    refine ev_4 hc_X4_letter (fe_X4_letter (pc := 111) rfl) (rI_al ev47) ?_
    refine ev_go hc_X4_letter (k := 1) (pc' := 113) (L' := [.int a0, .ref a1, .int a2, .int a3]) (S' := [.int a3, .int v47]) rfl ?_
    by_cases c48 : v47 = a3
    · rw [if_pos c48] at H
      refine ev_bt hc_X4_letter (fe_X4_letter (pc := 113) rfl) rfl c48 ?_
      refine ev_go hc_X4_letter (k := 2) (pc' := 121) (L' := [.int a0, .ref a1, .int a2, .int a3]) (S' := [.int 1]) rfl ?_
      obtain rfl := Option.some.inj H
      exact ev_8 hc_X4_letter (fe_X4_letter (pc := 121) rfl) rfl
    · rw [if_neg c48] at H
      refine ev_bf hc_X4_letter (fe_X4_letter (pc := 113) rfl) rfl c48 ?_
      refine ev_go hc_X4_letter (k := 1) (pc' := 121) (L' := [.int a0, .ref a1, .int a2, .int a3]) (S' := [.int 0]) rfl ?_
      obtain rfl := Option.some.inj H
      exact ev_8 hc_X4_letter (fe_X4_letter (pc := 121) rfl) rfl
  rw [if_neg c44] at H
  by_cases c49 : a0 = 116
  · rw [if_pos c49] at H
    refine ev_3 hc_X4_letter (fe_X4_letter (pc := 1) rfl) (pc' := 68) (S' := []) (by rw [c49]; rfl) ?_
    refine ev_go hc_X4_letter (k := 1) (pc' := 69) (L' := [.int a0, .ref a1, .int a2, .int a3]) (S' := [.ref a1]) rfl ?_
    obtain ⟨v50, ev50, H⟩ := Option.bind_eq_some_iff.mp H
    refine ev_4 hc_X4_letter (fe_X4_letter (pc := 69) rfl) (gR_gf ev50) ?_
    obtain ⟨v51, ev51, H⟩ := Option.bind_eq_some_iff.mp H
    refine ev_4 hc_X4_letter (fe_X4_letter (pc := 72) rfl) (gR_gf ev51) ?_
    refine ev_go hc_X4_letter (k := 1) (pc' := 76) (L' := [.int a0, .ref a1, .int a2, .int a3]) (S' := [.int a2, .ref v51]) rfl ?_
    obtain ⟨v52, ev52, H⟩ := Option.bind_eq_some_iff.mp H
    refine ev_4 hc_X4_letter (fe_X4_letter (pc := 76) rfl) (rI_al ev52) ?_
    obtain ⟨q53, eq53, H⟩ := Option.bind_eq_some_iff.mp H
    refine ev_call (vs := [.int v52]) (rest := []) (q := q_J6_bitCount_0f7a4) hc_X4_letter (Or.inl rfl) (fe_X4_letter (pc := 77) rfl) ms_285 rfl rfl (Nat.le_of_ble_eq_true rfl) rfl (E_J6_bitCount_0f7a4 eq53 (by omega)) rfl ?_
    show Ev xs N (d + 1) 29 80 [.int a0, .ref a1, .int a2, .int a3] [.int q53.1] q53.2 nx _
    obtain rfl := Option.some.inj H
    exact ev_8 hc_X4_letter (fe_X4_letter (pc := 80) rfl) rfl
  rw [if_neg c49] at H
  refine ev_3 hc_X4_letter (fe_X4_letter (pc := 1) rfl) (pc' := 103) (S' := []) (sw_out (by have := And.intro True.intro True.intro; have := lv_neT c1 (a := 104) (by decide); have := lv_neT c2 (a := 105) (by decide); have := lv_neT c3 (a := 106) (by decide); have := lv_neT c8 (a := 107) (by decide); have := lv_neT c11 (a := 108) (by decide); have := lv_neT c16 (a := 109) (by decide); have := lv_neT c21 (a := 110) (by decide); have := lv_neT c24 (a := 111) (by decide); have := lv_neT c29 (a := 112) (by decide); have := lv_neT c34 (a := 113) (by decide); have := lv_neT c39 (a := 114) (by decide); have := lv_neT c44 (a := 115) (by decide); have := lv_neT c49 (a := 116) (by decide); omega)) ?_
  refine ev_go hc_X4_letter (k := 1) (pc' := 104) (L' := [.int a0, .ref a1, .int a2, .int a3]) (S' := [.ref a1]) rfl ?_
  obtain ⟨v54, ev54, H⟩ := Option.bind_eq_some_iff.mp H
  refine ev_4 hc_X4_letter (fe_X4_letter (pc := 104) rfl) (gR_gf ev54) ?_
  obtain ⟨v55, ev55, H⟩ := Option.bind_eq_some_iff.mp H
  refine ev_4 hc_X4_letter (fe_X4_letter (pc := 107) rfl) (gR_gf ev55) ?_
  refine ev_go hc_X4_letter (k := 1) (pc' := 111) (L' := [.int a0, .ref a1, .int a2, .int a3]) (S' := [.int a2, .ref v55]) rfl ?_
  obtain ⟨v56, ev56, H⟩ := Option.bind_eq_some_iff.mp H
  refine ev_4 hc_X4_letter (fe_X4_letter (pc := 111) rfl) (rI_al ev56) ?_
  refine ev_go hc_X4_letter (k := 1) (pc' := 113) (L' := [.int a0, .ref a1, .int a2, .int a3]) (S' := [.int a3, .int v56]) rfl ?_
  by_cases c57 : v56 = a3
  · rw [if_pos c57] at H
    refine ev_bt hc_X4_letter (fe_X4_letter (pc := 113) rfl) rfl c57 ?_
    refine ev_go hc_X4_letter (k := 2) (pc' := 121) (L' := [.int a0, .ref a1, .int a2, .int a3]) (S' := [.int 1]) rfl ?_
    obtain rfl := Option.some.inj H
    exact ev_8 hc_X4_letter (fe_X4_letter (pc := 121) rfl) rfl
  · rw [if_neg c57] at H
    refine ev_bf hc_X4_letter (fe_X4_letter (pc := 113) rfl) rfl c57 ?_
    refine ev_go hc_X4_letter (k := 1) (pc' := 121) (L' := [.int a0, .ref a1, .int a2, .int a3]) (S' := [.int 0]) rfl ?_
    obtain rfl := Option.some.inj H
    exact ev_8 hc_X4_letter (fe_X4_letter (pc := 121) rfl) rfl
theorem hc_X4_isOperation : ci_code (ci_Ms 27) = k_X4_isOperation := rfl
theorem fe_X4_isOperation {pc : Nat} {w : Option ci_I} (h : (k_X4_isOperation)[pc]? = some w) : (k_X4_isOperation)[pc]? = some w := h
def F_X4_isOperation (a0 : Int32) (h : ci_H) : Option (Int32 × ci_H) := if a0 = 42 then (some (1, h)) else if a0 = 43 then (some (1, h)) else if a0 = 44 then (some (0, h)) else if a0 = 45 then (some (1, h)) else if a0 = 46 then (some (0, h)) else if a0 = 47 then (some (1, h)) else if a0 = 48 then (some (0, h)) else if a0 = 49 then (some (0, h)) else if a0 = 50 then (some (0, h)) else if a0 = 51 then (some (0, h)) else if a0 = 52 then (some (0, h)) else if a0 = 53 then (some (0, h)) else if a0 = 54 then (some (0, h)) else if a0 = 55 then (some (0, h)) else if a0 = 56 then (some (0, h)) else if a0 = 57 then (some (0, h)) else if a0 = 58 then (some (0, h)) else if a0 = 59 then (some (0, h)) else if a0 = 60 then (some (1, h)) else if a0 = 61 then (some (1, h)) else if a0 = 62 then (some (1, h)) else (some (0, h))
set_option maxHeartbeats 4000000 in
set_option maxRecDepth 20000 in
theorem E_X4_isOperation {xs : Nat → Int32} {N d : Nat} {nx : ci_N} {a0 : Int32} {h : ci_H} {r : Int32 × ci_H} (H : F_X4_isOperation a0 h = some r) (hd : 0 ≤ d) : Ev xs N d 27 0 (ci_entry [.int a0] 1) [] h nx (oI r nx) := by
  unfold F_X4_isOperation at H
  show Ev xs N d 27 0 [.int a0] [] h nx _
  refine ev_go hc_X4_isOperation (k := 1) (pc' := 1) (L' := [.int a0]) (S' := [.int a0]) rfl ?_
  by_cases c1 : a0 = 42
  · rw [if_pos c1] at H
    refine ev_3 hc_X4_isOperation (fe_X4_isOperation (pc := 1) rfl) (pc' := 100) (S' := []) (by rw [c1]; rfl) ?_
    refine ev_go hc_X4_isOperation (k := 1) (pc' := 101) (L' := [.int a0]) (S' := [.int 1]) rfl ?_
    obtain rfl := Option.some.inj H
    exact ev_8z hc_X4_isOperation (fe_X4_isOperation (pc := 101) rfl) rfl (Or.inr rfl)
  rw [if_neg c1] at H
  by_cases c2 : a0 = 43
  · rw [if_pos c2] at H
    refine ev_3 hc_X4_isOperation (fe_X4_isOperation (pc := 1) rfl) (pc' := 100) (S' := []) (by rw [c2]; rfl) ?_
    refine ev_go hc_X4_isOperation (k := 1) (pc' := 101) (L' := [.int a0]) (S' := [.int 1]) rfl ?_
    obtain rfl := Option.some.inj H
    exact ev_8z hc_X4_isOperation (fe_X4_isOperation (pc := 101) rfl) rfl (Or.inr rfl)
  rw [if_neg c2] at H
  by_cases c3 : a0 = 44
  · rw [if_pos c3] at H
    refine ev_3 hc_X4_isOperation (fe_X4_isOperation (pc := 1) rfl) (pc' := 102) (S' := []) (by rw [c3]; rfl) ?_
    refine ev_go hc_X4_isOperation (k := 1) (pc' := 103) (L' := [.int a0]) (S' := [.int 0]) rfl ?_
    obtain rfl := Option.some.inj H
    exact ev_8z hc_X4_isOperation (fe_X4_isOperation (pc := 103) rfl) rfl (Or.inl rfl)
  rw [if_neg c3] at H
  by_cases c4 : a0 = 45
  · rw [if_pos c4] at H
    refine ev_3 hc_X4_isOperation (fe_X4_isOperation (pc := 1) rfl) (pc' := 100) (S' := []) (by rw [c4]; rfl) ?_
    refine ev_go hc_X4_isOperation (k := 1) (pc' := 101) (L' := [.int a0]) (S' := [.int 1]) rfl ?_
    obtain rfl := Option.some.inj H
    exact ev_8z hc_X4_isOperation (fe_X4_isOperation (pc := 101) rfl) rfl (Or.inr rfl)
  rw [if_neg c4] at H
  by_cases c5 : a0 = 46
  · rw [if_pos c5] at H
    refine ev_3 hc_X4_isOperation (fe_X4_isOperation (pc := 1) rfl) (pc' := 102) (S' := []) (by rw [c5]; rfl) ?_
    refine ev_go hc_X4_isOperation (k := 1) (pc' := 103) (L' := [.int a0]) (S' := [.int 0]) rfl ?_
    obtain rfl := Option.some.inj H
    exact ev_8z hc_X4_isOperation (fe_X4_isOperation (pc := 103) rfl) rfl (Or.inl rfl)
  rw [if_neg c5] at H
  by_cases c6 : a0 = 47
  · rw [if_pos c6] at H
    refine ev_3 hc_X4_isOperation (fe_X4_isOperation (pc := 1) rfl) (pc' := 100) (S' := []) (by rw [c6]; rfl) ?_
    refine ev_go hc_X4_isOperation (k := 1) (pc' := 101) (L' := [.int a0]) (S' := [.int 1]) rfl ?_
    obtain rfl := Option.some.inj H
    exact ev_8z hc_X4_isOperation (fe_X4_isOperation (pc := 101) rfl) rfl (Or.inr rfl)
  rw [if_neg c6] at H
  by_cases c7 : a0 = 48
  · rw [if_pos c7] at H
    refine ev_3 hc_X4_isOperation (fe_X4_isOperation (pc := 1) rfl) (pc' := 102) (S' := []) (by rw [c7]; rfl) ?_
    refine ev_go hc_X4_isOperation (k := 1) (pc' := 103) (L' := [.int a0]) (S' := [.int 0]) rfl ?_
    obtain rfl := Option.some.inj H
    exact ev_8z hc_X4_isOperation (fe_X4_isOperation (pc := 103) rfl) rfl (Or.inl rfl)
  rw [if_neg c7] at H
  by_cases c8 : a0 = 49
  · rw [if_pos c8] at H
    refine ev_3 hc_X4_isOperation (fe_X4_isOperation (pc := 1) rfl) (pc' := 102) (S' := []) (by rw [c8]; rfl) ?_
    refine ev_go hc_X4_isOperation (k := 1) (pc' := 103) (L' := [.int a0]) (S' := [.int 0]) rfl ?_
    obtain rfl := Option.some.inj H
    exact ev_8z hc_X4_isOperation (fe_X4_isOperation (pc := 103) rfl) rfl (Or.inl rfl)
  rw [if_neg c8] at H
  by_cases c9 : a0 = 50
  · rw [if_pos c9] at H
    refine ev_3 hc_X4_isOperation (fe_X4_isOperation (pc := 1) rfl) (pc' := 102) (S' := []) (by rw [c9]; rfl) ?_
    refine ev_go hc_X4_isOperation (k := 1) (pc' := 103) (L' := [.int a0]) (S' := [.int 0]) rfl ?_
    obtain rfl := Option.some.inj H
    exact ev_8z hc_X4_isOperation (fe_X4_isOperation (pc := 103) rfl) rfl (Or.inl rfl)
  rw [if_neg c9] at H
  by_cases c10 : a0 = 51
  · rw [if_pos c10] at H
    refine ev_3 hc_X4_isOperation (fe_X4_isOperation (pc := 1) rfl) (pc' := 102) (S' := []) (by rw [c10]; rfl) ?_
    refine ev_go hc_X4_isOperation (k := 1) (pc' := 103) (L' := [.int a0]) (S' := [.int 0]) rfl ?_
    obtain rfl := Option.some.inj H
    exact ev_8z hc_X4_isOperation (fe_X4_isOperation (pc := 103) rfl) rfl (Or.inl rfl)
  rw [if_neg c10] at H
  by_cases c11 : a0 = 52
  · rw [if_pos c11] at H
    refine ev_3 hc_X4_isOperation (fe_X4_isOperation (pc := 1) rfl) (pc' := 102) (S' := []) (by rw [c11]; rfl) ?_
    refine ev_go hc_X4_isOperation (k := 1) (pc' := 103) (L' := [.int a0]) (S' := [.int 0]) rfl ?_
    obtain rfl := Option.some.inj H
    exact ev_8z hc_X4_isOperation (fe_X4_isOperation (pc := 103) rfl) rfl (Or.inl rfl)
  rw [if_neg c11] at H
  by_cases c12 : a0 = 53
  · rw [if_pos c12] at H
    refine ev_3 hc_X4_isOperation (fe_X4_isOperation (pc := 1) rfl) (pc' := 102) (S' := []) (by rw [c12]; rfl) ?_
    refine ev_go hc_X4_isOperation (k := 1) (pc' := 103) (L' := [.int a0]) (S' := [.int 0]) rfl ?_
    obtain rfl := Option.some.inj H
    exact ev_8z hc_X4_isOperation (fe_X4_isOperation (pc := 103) rfl) rfl (Or.inl rfl)
  rw [if_neg c12] at H
  by_cases c13 : a0 = 54
  · rw [if_pos c13] at H
    refine ev_3 hc_X4_isOperation (fe_X4_isOperation (pc := 1) rfl) (pc' := 102) (S' := []) (by rw [c13]; rfl) ?_
    refine ev_go hc_X4_isOperation (k := 1) (pc' := 103) (L' := [.int a0]) (S' := [.int 0]) rfl ?_
    obtain rfl := Option.some.inj H
    exact ev_8z hc_X4_isOperation (fe_X4_isOperation (pc := 103) rfl) rfl (Or.inl rfl)
  rw [if_neg c13] at H
  by_cases c14 : a0 = 55
  · rw [if_pos c14] at H
    refine ev_3 hc_X4_isOperation (fe_X4_isOperation (pc := 1) rfl) (pc' := 102) (S' := []) (by rw [c14]; rfl) ?_
    refine ev_go hc_X4_isOperation (k := 1) (pc' := 103) (L' := [.int a0]) (S' := [.int 0]) rfl ?_
    obtain rfl := Option.some.inj H
    exact ev_8z hc_X4_isOperation (fe_X4_isOperation (pc := 103) rfl) rfl (Or.inl rfl)
  rw [if_neg c14] at H
  by_cases c15 : a0 = 56
  · rw [if_pos c15] at H
    refine ev_3 hc_X4_isOperation (fe_X4_isOperation (pc := 1) rfl) (pc' := 102) (S' := []) (by rw [c15]; rfl) ?_
    refine ev_go hc_X4_isOperation (k := 1) (pc' := 103) (L' := [.int a0]) (S' := [.int 0]) rfl ?_
    obtain rfl := Option.some.inj H
    exact ev_8z hc_X4_isOperation (fe_X4_isOperation (pc := 103) rfl) rfl (Or.inl rfl)
  rw [if_neg c15] at H
  by_cases c16 : a0 = 57
  · rw [if_pos c16] at H
    refine ev_3 hc_X4_isOperation (fe_X4_isOperation (pc := 1) rfl) (pc' := 102) (S' := []) (by rw [c16]; rfl) ?_
    refine ev_go hc_X4_isOperation (k := 1) (pc' := 103) (L' := [.int a0]) (S' := [.int 0]) rfl ?_
    obtain rfl := Option.some.inj H
    exact ev_8z hc_X4_isOperation (fe_X4_isOperation (pc := 103) rfl) rfl (Or.inl rfl)
  rw [if_neg c16] at H
  by_cases c17 : a0 = 58
  · rw [if_pos c17] at H
    refine ev_3 hc_X4_isOperation (fe_X4_isOperation (pc := 1) rfl) (pc' := 102) (S' := []) (by rw [c17]; rfl) ?_
    refine ev_go hc_X4_isOperation (k := 1) (pc' := 103) (L' := [.int a0]) (S' := [.int 0]) rfl ?_
    obtain rfl := Option.some.inj H
    exact ev_8z hc_X4_isOperation (fe_X4_isOperation (pc := 103) rfl) rfl (Or.inl rfl)
  rw [if_neg c17] at H
  by_cases c18 : a0 = 59
  · rw [if_pos c18] at H
    refine ev_3 hc_X4_isOperation (fe_X4_isOperation (pc := 1) rfl) (pc' := 102) (S' := []) (by rw [c18]; rfl) ?_
    refine ev_go hc_X4_isOperation (k := 1) (pc' := 103) (L' := [.int a0]) (S' := [.int 0]) rfl ?_
    obtain rfl := Option.some.inj H
    exact ev_8z hc_X4_isOperation (fe_X4_isOperation (pc := 103) rfl) rfl (Or.inl rfl)
  rw [if_neg c18] at H
  by_cases c19 : a0 = 60
  · rw [if_pos c19] at H
    refine ev_3 hc_X4_isOperation (fe_X4_isOperation (pc := 1) rfl) (pc' := 100) (S' := []) (by rw [c19]; rfl) ?_
    refine ev_go hc_X4_isOperation (k := 1) (pc' := 101) (L' := [.int a0]) (S' := [.int 1]) rfl ?_
    obtain rfl := Option.some.inj H
    exact ev_8z hc_X4_isOperation (fe_X4_isOperation (pc := 101) rfl) rfl (Or.inr rfl)
  rw [if_neg c19] at H
  by_cases c20 : a0 = 61
  · rw [if_pos c20] at H
    refine ev_3 hc_X4_isOperation (fe_X4_isOperation (pc := 1) rfl) (pc' := 100) (S' := []) (by rw [c20]; rfl) ?_
    refine ev_go hc_X4_isOperation (k := 1) (pc' := 101) (L' := [.int a0]) (S' := [.int 1]) rfl ?_
    obtain rfl := Option.some.inj H
    exact ev_8z hc_X4_isOperation (fe_X4_isOperation (pc := 101) rfl) rfl (Or.inr rfl)
  rw [if_neg c20] at H
  by_cases c21 : a0 = 62
  · rw [if_pos c21] at H
    refine ev_3 hc_X4_isOperation (fe_X4_isOperation (pc := 1) rfl) (pc' := 100) (S' := []) (by rw [c21]; rfl) ?_
    refine ev_go hc_X4_isOperation (k := 1) (pc' := 101) (L' := [.int a0]) (S' := [.int 1]) rfl ?_
    obtain rfl := Option.some.inj H
    exact ev_8z hc_X4_isOperation (fe_X4_isOperation (pc := 101) rfl) rfl (Or.inr rfl)
  rw [if_neg c21] at H
  refine ev_3 hc_X4_isOperation (fe_X4_isOperation (pc := 1) rfl) (pc' := 102) (S' := []) (sw_out (by have := And.intro True.intro True.intro; have := lv_neT c1 (a := 42) (by decide); have := lv_neT c2 (a := 43) (by decide); have := lv_neT c3 (a := 44) (by decide); have := lv_neT c4 (a := 45) (by decide); have := lv_neT c5 (a := 46) (by decide); have := lv_neT c6 (a := 47) (by decide); have := lv_neT c7 (a := 48) (by decide); have := lv_neT c8 (a := 49) (by decide); have := lv_neT c9 (a := 50) (by decide); have := lv_neT c10 (a := 51) (by decide); have := lv_neT c11 (a := 52) (by decide); have := lv_neT c12 (a := 53) (by decide); have := lv_neT c13 (a := 54) (by decide); have := lv_neT c14 (a := 55) (by decide); have := lv_neT c15 (a := 56) (by decide); have := lv_neT c16 (a := 57) (by decide); have := lv_neT c17 (a := 58) (by decide); have := lv_neT c18 (a := 59) (by decide); have := lv_neT c19 (a := 60) (by decide); have := lv_neT c20 (a := 61) (by decide); have := lv_neT c21 (a := 62) (by decide); omega)) ?_
  refine ev_go hc_X4_isOperation (k := 1) (pc' := 103) (L' := [.int a0]) (S' := [.int 0]) rfl ?_
  obtain rfl := Option.some.inj H
  exact ev_8z hc_X4_isOperation (fe_X4_isOperation (pc := 103) rfl) rfl (Or.inl rfl)
theorem hc_X4_operated : ci_code (ci_Ms 28) = k_X4_operated := rfl
theorem fe_X4_operated {pc : Nat} {w : Option ci_I} (h : (k_X4_operated)[pc]? = some w) : (k_X4_operated)[pc]? = some w := h
def F_X4_operated (a0 : Int32) (a1 : Int32) (a2 : Int32) (h : ci_H) : Option (Int32 × ci_H) := if a0 = 42 then (some (a1 * a2, h)) else if a0 = 43 then (some (a1 + a2, h)) else if a0 = 45 then (some (a1 - a2, h)) else if a0 = 60 then (if a2 ≤ a1 then (some (0, h)) else (some (1, h))) else if a0 = 61 then (if a1 = a2 then (some (1, h)) else (some (0, h))) else if a0 = 62 then (if a1 ≤ a2 then (some (0, h)) else (some (1, h))) else (if a2 = 0 then (some (0, h)) else ((dvI a1 a2).bind fun v11 => some (v11, h)))
set_option maxHeartbeats 4000000 in
set_option maxRecDepth 20000 in
theorem E_X4_operated {xs : Nat → Int32} {N d : Nat} {nx : ci_N} {a0 : Int32} {a1 : Int32} {a2 : Int32} {h : ci_H} {r : Int32 × ci_H} (H : F_X4_operated a0 a1 a2 h = some r) (hd : 0 ≤ d) : Ev xs N d 28 0 (ci_entry [.int a0, .int a1, .int a2] 3) [] h nx (oI r nx) := by
  unfold F_X4_operated at H
  show Ev xs N d 28 0 [.int a0, .int a1, .int a2] [] h nx _
  refine ev_go hc_X4_operated (k := 1) (pc' := 1) (L' := [.int a0, .int a1, .int a2]) (S' := [.int a0]) rfl ?_
  by_cases c1 : a0 = 42
  · rw [if_pos c1] at H
    refine ev_3 hc_X4_operated (fe_X4_operated (pc := 1) rfl) (pc' := 101) (S' := []) (by rw [c1]; rfl) ?_
    refine ev_go hc_X4_operated (k := 3) (pc' := 104) (L' := [.int a0, .int a1, .int a2]) (S' := [.int (a1 * a2)]) rfl ?_
    obtain rfl := Option.some.inj H
    exact ev_8 hc_X4_operated (fe_X4_operated (pc := 104) rfl) rfl
  rw [if_neg c1] at H
  by_cases c2 : a0 = 43
  · rw [if_pos c2] at H
    refine ev_3 hc_X4_operated (fe_X4_operated (pc := 1) rfl) (pc' := 93) (S' := []) (by rw [c2]; rfl) ?_
    refine ev_go hc_X4_operated (k := 3) (pc' := 96) (L' := [.int a0, .int a1, .int a2]) (S' := [.int (a1 + a2)]) rfl ?_
    obtain rfl := Option.some.inj H
    exact ev_8 hc_X4_operated (fe_X4_operated (pc := 96) rfl) rfl
  rw [if_neg c2] at H
  by_cases c3 : a0 = 45
  · rw [if_pos c3] at H
    refine ev_3 hc_X4_operated (fe_X4_operated (pc := 1) rfl) (pc' := 97) (S' := []) (by rw [c3]; rfl) ?_
    refine ev_go hc_X4_operated (k := 3) (pc' := 100) (L' := [.int a0, .int a1, .int a2]) (S' := [.int (a1 - a2)]) rfl ?_
    obtain rfl := Option.some.inj H
    exact ev_8 hc_X4_operated (fe_X4_operated (pc := 100) rfl) rfl
  rw [if_neg c3] at H
  by_cases c4 : a0 = 60
  · rw [if_pos c4] at H
    refine ev_3 hc_X4_operated (fe_X4_operated (pc := 1) rfl) (pc' := 60) (S' := []) (by rw [c4]; rfl) ?_
    refine ev_go hc_X4_operated (k := 2) (pc' := 62) (L' := [.int a0, .int a1, .int a2]) (S' := [.int a2, .int a1]) rfl ?_
    by_cases c5 : a2 ≤ a1
    · rw [if_pos c5] at H
      refine ev_bt hc_X4_operated (fe_X4_operated (pc := 62) rfl) rfl c5 ?_
      refine ev_go hc_X4_operated (k := 1) (pc' := 70) (L' := [.int a0, .int a1, .int a2]) (S' := [.int 0]) rfl ?_
      obtain rfl := Option.some.inj H
      exact ev_8 hc_X4_operated (fe_X4_operated (pc := 70) rfl) rfl
    · rw [if_neg c5] at H
      refine ev_bf hc_X4_operated (fe_X4_operated (pc := 62) rfl) rfl c5 ?_
      refine ev_go hc_X4_operated (k := 2) (pc' := 70) (L' := [.int a0, .int a1, .int a2]) (S' := [.int 1]) rfl ?_
      obtain rfl := Option.some.inj H
      exact ev_8 hc_X4_operated (fe_X4_operated (pc := 70) rfl) rfl
  rw [if_neg c4] at H
  by_cases c6 : a0 = 61
  · rw [if_pos c6] at H
    refine ev_3 hc_X4_operated (fe_X4_operated (pc := 1) rfl) (pc' := 82) (S' := []) (by rw [c6]; rfl) ?_
    refine ev_go hc_X4_operated (k := 2) (pc' := 84) (L' := [.int a0, .int a1, .int a2]) (S' := [.int a2, .int a1]) rfl ?_
    by_cases c7 : a1 = a2
    · rw [if_pos c7] at H
      refine ev_bt hc_X4_operated (fe_X4_operated (pc := 84) rfl) rfl c7 ?_
      refine ev_go hc_X4_operated (k := 2) (pc' := 92) (L' := [.int a0, .int a1, .int a2]) (S' := [.int 1]) rfl ?_
      obtain rfl := Option.some.inj H
      exact ev_8 hc_X4_operated (fe_X4_operated (pc := 92) rfl) rfl
    · rw [if_neg c7] at H
      refine ev_bf hc_X4_operated (fe_X4_operated (pc := 84) rfl) rfl c7 ?_
      refine ev_go hc_X4_operated (k := 1) (pc' := 92) (L' := [.int a0, .int a1, .int a2]) (S' := [.int 0]) rfl ?_
      obtain rfl := Option.some.inj H
      exact ev_8 hc_X4_operated (fe_X4_operated (pc := 92) rfl) rfl
  rw [if_neg c6] at H
  by_cases c8 : a0 = 62
  · rw [if_pos c8] at H
    refine ev_3 hc_X4_operated (fe_X4_operated (pc := 1) rfl) (pc' := 71) (S' := []) (by rw [c8]; rfl) ?_
    refine ev_go hc_X4_operated (k := 2) (pc' := 73) (L' := [.int a0, .int a1, .int a2]) (S' := [.int a2, .int a1]) rfl ?_
    by_cases c9 : a1 ≤ a2
    · rw [if_pos c9] at H
      refine ev_bt hc_X4_operated (fe_X4_operated (pc := 73) rfl) rfl c9 ?_
      refine ev_go hc_X4_operated (k := 1) (pc' := 81) (L' := [.int a0, .int a1, .int a2]) (S' := [.int 0]) rfl ?_
      obtain rfl := Option.some.inj H
      exact ev_8 hc_X4_operated (fe_X4_operated (pc := 81) rfl) rfl
    · rw [if_neg c9] at H
      refine ev_bf hc_X4_operated (fe_X4_operated (pc := 73) rfl) rfl c9 ?_
      refine ev_go hc_X4_operated (k := 2) (pc' := 81) (L' := [.int a0, .int a1, .int a2]) (S' := [.int 1]) rfl ?_
      obtain rfl := Option.some.inj H
      exact ev_8 hc_X4_operated (fe_X4_operated (pc := 81) rfl) rfl
  rw [if_neg c8] at H
  refine ev_3 hc_X4_operated (fe_X4_operated (pc := 1) rfl) (pc' := 105) (S' := []) (sw_lk (by rw [lv_osw c1 (by decide), lv_osw c2 (by decide), lv_osw c3 (by decide), lv_osw c4 (by decide), lv_osw c6 (by decide), lv_osw c8 (by decide)]; rfl) rfl) ?_
  refine ev_go hc_X4_operated (k := 1) (pc' := 106) (L' := [.int a0, .int a1, .int a2]) (S' := [.int a2]) rfl ?_
  by_cases c10 : a2 = 0
  · rw [if_pos c10] at H
    refine ev_bt hc_X4_operated (fe_X4_operated (pc := 106) rfl) rfl c10 ?_
    refine ev_go hc_X4_operated (k := 2) (pc' := 116) (L' := [.int a0, .int a1, .int a2]) (S' := [.int 0]) rfl ?_
    obtain rfl := Option.some.inj H
    exact ev_8 hc_X4_operated (fe_X4_operated (pc := 116) rfl) rfl
  · rw [if_neg c10] at H
    refine ev_bf hc_X4_operated (fe_X4_operated (pc := 106) rfl) rfl c10 ?_
    refine ev_go hc_X4_operated (k := 2) (pc' := 115) (L' := [.int a0, .int a1, .int a2]) (S' := [.int a2, .int a1]) rfl ?_
    obtain ⟨v11, ev11, H⟩ := Option.bind_eq_some_iff.mp H
    refine ev_1 hc_X4_operated (fe_X4_operated (pc := 115) rfl) (dvI_st ev11) ?_
    obtain rfl := Option.some.inj H
    exact ev_8 hc_X4_operated (fe_X4_operated (pc := 116) rfl) rfl
theorem hc_X4_computed : ci_code (ci_Ms 26) = k_X4_computed := rfl
theorem fe_X4_computed {pc : Nat} {w : Option ci_I} (h : (k_X4_computed)[pc]? = some w) : (k_X4_computed)[pc]? = some w := h
def b_X4_computed_159 (r_6 : Int32 → Int32 → ci_H → Option (Int32 × ci_H)) (l0 : Nat) (l1 : Nat) (l2 : Int32) (l3 : Int32) (l4 : Int32) (l5 : Int32)  (h : ci_H) : Option (Int32 × ci_H) := r_6 l4 (l5 + 1) h
set_option maxHeartbeats 4000000 in
set_option maxRecDepth 20000 in
theorem eb_X4_computed_159 {xs : Nat → Int32} {N d : Nat} {nx : ci_N} {r_6 : Int32 → Int32 → ci_H → Option (Int32 × ci_H)} {l0 : Nat} {l1 : Nat} {l2 : Int32} {l3 : Int32} {l4 : Int32} {l5 : Int32} (hd : 1 ≤ d) (h_6 : ∀ (l4 : Int32) (l5 : Int32) (h : ci_H) (r : Int32 × ci_H), r_6 l4 l5 h = some r → Ev xs N (d + 1) 26 6 [.ref l0, .ref l1, .int l2, .int l3, .int l4, .int l5, ci_junk] [] h nx (oI r nx)) {h : ci_H} {r : Int32 × ci_H} (H : b_X4_computed_159 r_6 l0 l1 l2 l3 l4 l5 h = some r) : Ev xs N (d + 1) 26 159 [.ref l0, .ref l1, .int l2, .int l3, .int l4, .int l5, ci_junk] [] h nx (oI r nx) := by
  unfold b_X4_computed_159 at H
  refine ev_go hc_X4_computed (k := 2) (pc' := 6) (L' := [.ref l0, .ref l1, .int l2, .int l3, .int l4, .int (l5 + 1), ci_junk]) (S' := []) rfl ?_
  exact Ev.weak (ci_le_c (Or.inr rfl) (ci_le_c (Or.inr rfl) (ci_le_c (Or.inr rfl) (ci_le_c (Or.inr rfl) (ci_le_c (Or.inr rfl) (ci_le_c (Or.inr rfl) (ci_le_c (Or.inl rfl) (ci_le_n)))))))) (h_6 _ _ _ _ H)
def b_X4_computed_155 (r_6 : Int32 → Int32 → ci_H → Option (Int32 × ci_H)) (l0 : Nat) (l1 : Nat) (l2 : Int32) (l3 : Int32) (l4 : Int32) (l5 : Int32) (s0 : Nat) (s1 : Int32) (s2 : Int32)  (h : ci_H) : Option (Int32 × ci_H) := (wI h s0 s1 s2).bind fun h1 => b_X4_computed_159 r_6 l0 l1 l2 l3 (l4 + 1) l5 h1
set_option maxHeartbeats 4000000 in
set_option maxRecDepth 20000 in
theorem eb_X4_computed_155 {xs : Nat → Int32} {N d : Nat} {nx : ci_N} {r_6 : Int32 → Int32 → ci_H → Option (Int32 × ci_H)} {l0 : Nat} {l1 : Nat} {l2 : Int32} {l3 : Int32} {l4 : Int32} {l5 : Int32} {s0 : Nat} {s1 : Int32} {s2 : Int32} (hd : 1 ≤ d) (h_6 : ∀ (l4 : Int32) (l5 : Int32) (h : ci_H) (r : Int32 × ci_H), r_6 l4 l5 h = some r → Ev xs N (d + 1) 26 6 [.ref l0, .ref l1, .int l2, .int l3, .int l4, .int l5, ci_junk] [] h nx (oI r nx)) {h : ci_H} {r : Int32 × ci_H} (H : b_X4_computed_155 r_6 l0 l1 l2 l3 l4 l5 s0 s1 s2 h = some r) : Ev xs N (d + 1) 26 155 [.ref l0, .ref l1, .int l2, .int l3, .int l4, .int l5, ci_junk] [.int s2, .int s1, .ref s0] h nx (oI r nx) := by
  unfold b_X4_computed_155 at H
  obtain ⟨h1, eh1, H⟩ := Option.bind_eq_some_iff.mp H
  refine ev_5 hc_X4_computed (fe_X4_computed (pc := 155) rfl) (wI_as eh1) ?_
  refine ev_go hc_X4_computed (k := 1) (pc' := 159) (L' := [.ref l0, .ref l1, .int l2, .int l3, .int (l4 + 1), .int l5, ci_junk]) (S' := []) rfl ?_
  exact Ev.weak (ci_le_c (Or.inr rfl) (ci_le_c (Or.inr rfl) (ci_le_c (Or.inr rfl) (ci_le_c (Or.inr rfl) (ci_le_c (Or.inr rfl) (ci_le_c (Or.inr rfl) (ci_le_c (Or.inl rfl) (ci_le_n)))))))) (eb_X4_computed_159 hd h_6 H)
def b_X4_computed_85 (r_6 : Int32 → Int32 → ci_H → Option (Int32 × ci_H)) (l0 : Nat) (l1 : Nat) (l2 : Int32) (l3 : Int32) (l4 : Int32) (l5 : Int32) (l6 : Int32)  (h : ci_H) : Option (Int32 × ci_H) := if l6 = ((-127)) then (if 1 ≤ l4 then ((gR h l0 4 1).bind fun v3 => (gR h l0 4 1).bind fun v4 => (rI h v4 (l4 - 1)).bind fun v5 => (wI h v3 (l4 - 1) (-v5)).bind fun h6 => b_X4_computed_159 r_6 l0 l1 l2 l3 l4 l5 h6) else (some (0, h))) else (if 40 ≤ l4 then (b_X4_computed_159 r_6 l0 l1 l2 l3 l4 l5 h) else ((gR h l0 4 1).bind fun v8 => if l6 < 0 then ((F_X4_letter (l6 ^^^ ((-1))) l1 l2 l3 h).bind fun q10 => b_X4_computed_155 r_6 l0 l1 l2 l3 l4 l5 v8 l4 q10.1 q10.2) else (b_X4_computed_155 r_6 l0 l1 l2 l3 l4 l5 v8 l4 l6 h)))
set_option maxHeartbeats 4000000 in
set_option maxRecDepth 20000 in
theorem eb_X4_computed_85 {xs : Nat → Int32} {N d : Nat} {nx : ci_N} {r_6 : Int32 → Int32 → ci_H → Option (Int32 × ci_H)} {l0 : Nat} {l1 : Nat} {l2 : Int32} {l3 : Int32} {l4 : Int32} {l5 : Int32} {l6 : Int32} (hd : 1 ≤ d) (h_6 : ∀ (l4 : Int32) (l5 : Int32) (h : ci_H) (r : Int32 × ci_H), r_6 l4 l5 h = some r → Ev xs N (d + 1) 26 6 [.ref l0, .ref l1, .int l2, .int l3, .int l4, .int l5, ci_junk] [] h nx (oI r nx)) {h : ci_H} {r : Int32 × ci_H} (H : b_X4_computed_85 r_6 l0 l1 l2 l3 l4 l5 l6 h = some r) : Ev xs N (d + 1) 26 85 [.ref l0, .ref l1, .int l2, .int l3, .int l4, .int l5, .int l6] [] h nx (oI r nx) := by
  unfold b_X4_computed_85 at H
  refine ev_go hc_X4_computed (k := 2) (pc' := 89) (L' := [.ref l0, .ref l1, .int l2, .int l3, .int l4, .int l5, .int l6]) (S' := [.int ((-127)), .int l6]) rfl ?_
  by_cases c1 : l6 = ((-127))
  · rw [if_pos c1] at H
    refine ev_bt hc_X4_computed (fe_X4_computed (pc := 89) rfl) rfl c1 ?_
    refine ev_go hc_X4_computed (k := 2) (pc' := 95) (L' := [.ref l0, .ref l1, .int l2, .int l3, .int l4, .int l5, .int l6]) (S' := [.int 1, .int l4]) rfl ?_
    by_cases c2 : 1 ≤ l4
    · rw [if_pos c2] at H
      refine ev_bt hc_X4_computed (fe_X4_computed (pc := 95) rfl) rfl c2 ?_
      refine ev_go hc_X4_computed (k := 1) (pc' := 101) (L' := [.ref l0, .ref l1, .int l2, .int l3, .int l4, .int l5, .int l6]) (S' := [.ref l0]) rfl ?_
      obtain ⟨v3, ev3, H⟩ := Option.bind_eq_some_iff.mp H
      refine ev_4 hc_X4_computed (fe_X4_computed (pc := 101) rfl) (gR_gf ev3) ?_
      refine ev_go hc_X4_computed (k := 4) (pc' := 109) (L' := [.ref l0, .ref l1, .int l2, .int l3, .int l4, .int l5, .int l6]) (S' := [.ref l0, .int (l4 - 1), .ref v3]) rfl ?_
      obtain ⟨v4, ev4, H⟩ := Option.bind_eq_some_iff.mp H
      refine ev_4 hc_X4_computed (fe_X4_computed (pc := 109) rfl) (gR_gf ev4) ?_
      refine ev_go hc_X4_computed (k := 3) (pc' := 116) (L' := [.ref l0, .ref l1, .int l2, .int l3, .int l4, .int l5, .int l6]) (S' := [.int (l4 - 1), .ref v4, .int (l4 - 1), .ref v3]) rfl ?_
      obtain ⟨v5, ev5, H⟩ := Option.bind_eq_some_iff.mp H
      refine ev_4 hc_X4_computed (fe_X4_computed (pc := 116) rfl) (rI_al ev5) ?_
      refine ev_go hc_X4_computed (k := 1) (pc' := 118) (L' := [.ref l0, .ref l1, .int l2, .int l3, .int l4, .int l5, .int l6]) (S' := [.int (-v5), .int (l4 - 1), .ref v3]) rfl ?_
      obtain ⟨h6, eh6, H⟩ := Option.bind_eq_some_iff.mp H
      refine ev_5 hc_X4_computed (fe_X4_computed (pc := 118) rfl) (wI_as eh6) ?_
      refine ev_go hc_X4_computed (k := 1) (pc' := 159) (L' := [.ref l0, .ref l1, .int l2, .int l3, .int l4, .int l5, .int l6]) (S' := []) rfl ?_
      exact Ev.weak (ci_le_c (Or.inr rfl) (ci_le_c (Or.inr rfl) (ci_le_c (Or.inr rfl) (ci_le_c (Or.inr rfl) (ci_le_c (Or.inr rfl) (ci_le_c (Or.inr rfl) (ci_le_c (Or.inl rfl) (ci_le_n)))))))) (eb_X4_computed_159 hd h_6 H)
    · rw [if_neg c2] at H
      refine ev_bf hc_X4_computed (fe_X4_computed (pc := 95) rfl) rfl c2 ?_
      refine ev_go hc_X4_computed (k := 1) (pc' := 99) (L' := [.ref l0, .ref l1, .int l2, .int l3, .int l4, .int l5, .int l6]) (S' := [.int 0]) rfl ?_
      obtain rfl := Option.some.inj H
      exact ev_8 hc_X4_computed (fe_X4_computed (pc := 99) rfl) rfl
  · rw [if_neg c1] at H
    refine ev_bf hc_X4_computed (fe_X4_computed (pc := 89) rfl) rfl c1 ?_
    refine ev_go hc_X4_computed (k := 2) (pc' := 126) (L' := [.ref l0, .ref l1, .int l2, .int l3, .int l4, .int l5, .int l6]) (S' := [.int 40, .int l4]) rfl ?_
    by_cases c7 : 40 ≤ l4
    · rw [if_pos c7] at H
      refine ev_bt hc_X4_computed (fe_X4_computed (pc := 126) rfl) rfl c7 ?_
      exact Ev.weak (ci_le_c (Or.inr rfl) (ci_le_c (Or.inr rfl) (ci_le_c (Or.inr rfl) (ci_le_c (Or.inr rfl) (ci_le_c (Or.inr rfl) (ci_le_c (Or.inr rfl) (ci_le_c (Or.inl rfl) (ci_le_n)))))))) (eb_X4_computed_159 hd h_6 H)
    · rw [if_neg c7] at H
      refine ev_bf hc_X4_computed (fe_X4_computed (pc := 126) rfl) rfl c7 ?_
      refine ev_go hc_X4_computed (k := 1) (pc' := 130) (L' := [.ref l0, .ref l1, .int l2, .int l3, .int l4, .int l5, .int l6]) (S' := [.ref l0]) rfl ?_
      obtain ⟨v8, ev8, H⟩ := Option.bind_eq_some_iff.mp H
      refine ev_4 hc_X4_computed (fe_X4_computed (pc := 130) rfl) (gR_gf ev8) ?_
      refine ev_go hc_X4_computed (k := 2) (pc' := 137) (L' := [.ref l0, .ref l1, .int l2, .int l3, .int l4, .int l5, .int l6]) (S' := [.int l6, .int l4, .ref v8]) rfl ?_
      by_cases c9 : l6 < 0
      · rw [if_pos c9] at H
        refine ev_bt hc_X4_computed (fe_X4_computed (pc := 137) rfl) rfl c9 ?_
        refine ev_go hc_X4_computed (k := 6) (pc' := 152) (L' := [.ref l0, .ref l1, .int l2, .int l3, .int l4, .int l5, .int l6]) (S' := [.int l3, .int l2, .ref l1, .int (l6 ^^^ ((-1))), .int l4, .ref v8]) rfl ?_
        obtain ⟨q10, eq10, H⟩ := Option.bind_eq_some_iff.mp H
        refine ev_call (vs := [.int (l6 ^^^ ((-1))), .ref l1, .int l2, .int l3]) (rest := [.int l4, .ref v8]) (q := q_X4_letter) hc_X4_computed (Or.inl rfl) (fe_X4_computed (pc := 152) rfl) ms_29 rfl rfl (Nat.le_of_ble_eq_true rfl) rfl (E_X4_letter eq10 (by omega)) rfl ?_
        show Ev xs N (d + 1) 26 155 [.ref l0, .ref l1, .int l2, .int l3, .int l4, .int l5, .int l6] [.int q10.1, .int l4, .ref v8] q10.2 nx _
        exact Ev.weak (ci_le_c (Or.inr rfl) (ci_le_c (Or.inr rfl) (ci_le_c (Or.inr rfl) (ci_le_c (Or.inr rfl) (ci_le_c (Or.inr rfl) (ci_le_c (Or.inr rfl) (ci_le_c (Or.inl rfl) (ci_le_n)))))))) (eb_X4_computed_155 hd h_6 H)
      · rw [if_neg c9] at H
        refine ev_bf hc_X4_computed (fe_X4_computed (pc := 137) rfl) rfl c9 ?_
        refine ev_go hc_X4_computed (k := 2) (pc' := 155) (L' := [.ref l0, .ref l1, .int l2, .int l3, .int l4, .int l5, .int l6]) (S' := [.int l6, .int l4, .ref v8]) rfl ?_
        exact Ev.weak (ci_le_c (Or.inr rfl) (ci_le_c (Or.inr rfl) (ci_le_c (Or.inr rfl) (ci_le_c (Or.inr rfl) (ci_le_c (Or.inr rfl) (ci_le_c (Or.inr rfl) (ci_le_c (Or.inl rfl) (ci_le_n)))))))) (eb_X4_computed_155 hd h_6 H)
def b_X4_computed_6 (l0 : Nat) (l1 : Nat) (l2 : Int32) (l3 : Int32) : Nat → Int32 → Int32 → ci_H → Option (Int32 × ci_H)
  | 0, _, _, _ => none
  | n + 1, l4, l5, h => (gI h l0 4 2).bind fun v1 => if v1 ≤ l5 then ((gR h l0 4 1).bind fun v3 => (rI h v3 0).bind fun v4 => some (v4, h)) else ((gR h l0 4 0).bind fun v5 => (rI h v5 l5).bind fun v6 => if 0 ≤ v6 then (b_X4_computed_85 (fun x0 x1 x2 => b_X4_computed_6 l0 l1 l2 l3 n x0 x1 x2) l0 l1 l2 l3 l4 l5 v6 h) else ((F_X4_isOperation (v6 ^^^ ((-1))) h).bind fun q8 => if q8.1 = 0 then (b_X4_computed_85 (fun x0 x1 x2 => b_X4_computed_6 l0 l1 l2 l3 n x0 x1 x2) l0 l1 l2 l3 l4 l5 v6 q8.2) else (if 2 ≤ l4 then ((gR q8.2 l0 4 1).bind fun v11 => (gR q8.2 l0 4 1).bind fun v12 => (rI q8.2 v12 ((l4 + (-1)) - 1)).bind fun v13 => (gR q8.2 l0 4 1).bind fun v14 => (rI q8.2 v14 (l4 + (-1))).bind fun v15 => (F_X4_operated (v6 ^^^ ((-1))) v13 v15 q8.2).bind fun q16 => (wI q16.2 v11 ((l4 + (-1)) - 1) q16.1).bind fun h17 => b_X4_computed_159 (fun x0 x1 x2 => b_X4_computed_6 l0 l1 l2 l3 n x0 x1 x2) l0 l1 l2 l3 (l4 + (-1)) l5 h17) else (some (0, q8.2)))))
set_option maxHeartbeats 4000000 in
set_option maxRecDepth 20000 in
theorem eb_X4_computed_6 {xs : Nat → Int32} {N d : Nat} {nx : ci_N} {l0 : Nat} {l1 : Nat} {l2 : Int32} {l3 : Int32} (hd : 1 ≤ d) : ∀ (n : Nat) (l4 : Int32) (l5 : Int32) (h : ci_H) (r : Int32 × ci_H), b_X4_computed_6 l0 l1 l2 l3 n l4 l5 h = some r → Ev xs N (d + 1) 26 6 [.ref l0, .ref l1, .int l2, .int l3, .int l4, .int l5, ci_junk] [] h nx (oI r nx) := by
  intro n
  induction n with
  | zero => intro l4 l5 h r H; unfold b_X4_computed_6 at H; cases H
  | succ n ih =>
    intro l4 l5 h r H
    unfold b_X4_computed_6 at H
    refine ev_go hc_X4_computed (k := 2) (pc' := 9) (L' := [.ref l0, .ref l1, .int l2, .int l3, .int l4, .int l5, ci_junk]) (S' := [.ref l0, .int l5]) rfl ?_
    obtain ⟨v1, ev1, H⟩ := Option.bind_eq_some_iff.mp H
    refine ev_4 hc_X4_computed (fe_X4_computed (pc := 9) rfl) (gI_gf ev1) ?_
    by_cases c2 : v1 ≤ l5
    · rw [if_pos c2] at H
      refine ev_bt hc_X4_computed (fe_X4_computed (pc := 12) rfl) rfl c2 ?_
      refine ev_go hc_X4_computed (k := 1) (pc' := 166) (L' := [.ref l0, .ref l1, .int l2, .int l3, .int l4, .int l5, ci_junk]) (S' := [.ref l0]) rfl ?_
      obtain ⟨v3, ev3, H⟩ := Option.bind_eq_some_iff.mp H
      refine ev_4 hc_X4_computed (fe_X4_computed (pc := 166) rfl) (gR_gf ev3) ?_
      refine ev_go hc_X4_computed (k := 1) (pc' := 170) (L' := [.ref l0, .ref l1, .int l2, .int l3, .int l4, .int l5, ci_junk]) (S' := [.int 0, .ref v3]) rfl ?_
      obtain ⟨v4, ev4, H⟩ := Option.bind_eq_some_iff.mp H
      refine ev_4 hc_X4_computed (fe_X4_computed (pc := 170) rfl) (rI_al ev4) ?_
      obtain rfl := Option.some.inj H
      exact ev_8 hc_X4_computed (fe_X4_computed (pc := 171) rfl) rfl
    · rw [if_neg c2] at H
      refine ev_bf hc_X4_computed (fe_X4_computed (pc := 12) rfl) rfl c2 ?_
      refine ev_go hc_X4_computed (k := 1) (pc' := 16) (L' := [.ref l0, .ref l1, .int l2, .int l3, .int l4, .int l5, ci_junk]) (S' := [.ref l0]) rfl ?_
      obtain ⟨v5, ev5, H⟩ := Option.bind_eq_some_iff.mp H
      refine ev_4 hc_X4_computed (fe_X4_computed (pc := 16) rfl) (gR_gf ev5) ?_
      refine ev_go hc_X4_computed (k := 1) (pc' := 21) (L' := [.ref l0, .ref l1, .int l2, .int l3, .int l4, .int l5, ci_junk]) (S' := [.int l5, .ref v5]) rfl ?_
      obtain ⟨v6, ev6, H⟩ := Option.bind_eq_some_iff.mp H
      refine ev_4 hc_X4_computed (fe_X4_computed (pc := 21) rfl) (rI_al ev6) ?_
      refine ev_go hc_X4_computed (k := 2) (pc' := 26) (L' := [.ref l0, .ref l1, .int l2, .int l3, .int l4, .int l5, .int v6]) (S' := [.int v6]) rfl ?_
      by_cases c7 : 0 ≤ v6
      · rw [if_pos c7] at H
        refine ev_bt hc_X4_computed (fe_X4_computed (pc := 26) rfl) rfl c7 ?_
        exact Ev.weak (ci_le_c (Or.inr rfl) (ci_le_c (Or.inr rfl) (ci_le_c (Or.inr rfl) (ci_le_c (Or.inr rfl) (ci_le_c (Or.inr rfl) (ci_le_c (Or.inr rfl) (ci_le_c (Or.inr rfl) (ci_le_n)))))))) (eb_X4_computed_85 hd ih H)
      · rw [if_neg c7] at H
        refine ev_bf hc_X4_computed (fe_X4_computed (pc := 26) rfl) rfl c7 ?_
        refine ev_go hc_X4_computed (k := 3) (pc' := 33) (L' := [.ref l0, .ref l1, .int l2, .int l3, .int l4, .int l5, .int v6]) (S' := [.int (v6 ^^^ ((-1)))]) rfl ?_
        obtain ⟨q8, eq8, H⟩ := Option.bind_eq_some_iff.mp H
        refine ev_call (vs := [.int (v6 ^^^ ((-1)))]) (rest := []) (q := q_X4_isOperation) hc_X4_computed (Or.inl rfl) (fe_X4_computed (pc := 33) rfl) ms_27 rfl rfl (Nat.le_of_ble_eq_true rfl) rfl (E_X4_isOperation eq8 (by omega)) rfl ?_
        show Ev xs N (d + 1) 26 36 [.ref l0, .ref l1, .int l2, .int l3, .int l4, .int l5, .int v6] [.int q8.1] q8.2 nx _
        by_cases c9 : q8.1 = 0
        · rw [if_pos c9] at H
          refine ev_bt hc_X4_computed (fe_X4_computed (pc := 36) rfl) rfl c9 ?_
          exact Ev.weak (ci_le_c (Or.inr rfl) (ci_le_c (Or.inr rfl) (ci_le_c (Or.inr rfl) (ci_le_c (Or.inr rfl) (ci_le_c (Or.inr rfl) (ci_le_c (Or.inr rfl) (ci_le_c (Or.inr rfl) (ci_le_n)))))))) (eb_X4_computed_85 hd ih H)
        · rw [if_neg c9] at H
          refine ev_bf hc_X4_computed (fe_X4_computed (pc := 36) rfl) rfl c9 ?_
          refine ev_go hc_X4_computed (k := 2) (pc' := 42) (L' := [.ref l0, .ref l1, .int l2, .int l3, .int l4, .int l5, .int v6]) (S' := [.int 2, .int l4]) rfl ?_
          by_cases c10 : 2 ≤ l4
          · rw [if_pos c10] at H
            refine ev_bt hc_X4_computed (fe_X4_computed (pc := 42) rfl) rfl c10 ?_
            refine ev_go hc_X4_computed (k := 2) (pc' := 51) (L' := [.ref l0, .ref l1, .int l2, .int l3, .int (l4 + (-1)), .int l5, .int v6]) (S' := [.ref l0]) rfl ?_
            obtain ⟨v11, ev11, H⟩ := Option.bind_eq_some_iff.mp H
            refine ev_4 hc_X4_computed (fe_X4_computed (pc := 51) rfl) (gR_gf ev11) ?_
            refine ev_go hc_X4_computed (k := 7) (pc' := 63) (L' := [.ref l0, .ref l1, .int l2, .int l3, .int (l4 + (-1)), .int l5, .int v6]) (S' := [.ref l0, .int (v6 ^^^ ((-1))), .int ((l4 + (-1)) - 1), .ref v11]) rfl ?_
            obtain ⟨v12, ev12, H⟩ := Option.bind_eq_some_iff.mp H
            refine ev_4 hc_X4_computed (fe_X4_computed (pc := 63) rfl) (gR_gf ev12) ?_
            refine ev_go hc_X4_computed (k := 3) (pc' := 70) (L' := [.ref l0, .ref l1, .int l2, .int l3, .int (l4 + (-1)), .int l5, .int v6]) (S' := [.int ((l4 + (-1)) - 1), .ref v12, .int (v6 ^^^ ((-1))), .int ((l4 + (-1)) - 1), .ref v11]) rfl ?_
            obtain ⟨v13, ev13, H⟩ := Option.bind_eq_some_iff.mp H
            refine ev_4 hc_X4_computed (fe_X4_computed (pc := 70) rfl) (rI_al ev13) ?_
            refine ev_go hc_X4_computed (k := 1) (pc' := 72) (L' := [.ref l0, .ref l1, .int l2, .int l3, .int (l4 + (-1)), .int l5, .int v6]) (S' := [.ref l0, .int v13, .int (v6 ^^^ ((-1))), .int ((l4 + (-1)) - 1), .ref v11]) rfl ?_
            obtain ⟨v14, ev14, H⟩ := Option.bind_eq_some_iff.mp H
            refine ev_4 hc_X4_computed (fe_X4_computed (pc := 72) rfl) (gR_gf ev14) ?_
            refine ev_go hc_X4_computed (k := 1) (pc' := 77) (L' := [.ref l0, .ref l1, .int l2, .int l3, .int (l4 + (-1)), .int l5, .int v6]) (S' := [.int (l4 + (-1)), .ref v14, .int v13, .int (v6 ^^^ ((-1))), .int ((l4 + (-1)) - 1), .ref v11]) rfl ?_
            obtain ⟨v15, ev15, H⟩ := Option.bind_eq_some_iff.mp H
            refine ev_4 hc_X4_computed (fe_X4_computed (pc := 77) rfl) (rI_al ev15) ?_
            obtain ⟨q16, eq16, H⟩ := Option.bind_eq_some_iff.mp H
            refine ev_call (vs := [.int (v6 ^^^ ((-1))), .int v13, .int v15]) (rest := [.int ((l4 + (-1)) - 1), .ref v11]) (q := q_X4_operated) hc_X4_computed (Or.inl rfl) (fe_X4_computed (pc := 78) rfl) ms_28 rfl rfl (Nat.le_of_ble_eq_true rfl) rfl (E_X4_operated eq16 (by omega)) rfl ?_
            show Ev xs N (d + 1) 26 81 [.ref l0, .ref l1, .int l2, .int l3, .int (l4 + (-1)), .int l5, .int v6] [.int q16.1, .int ((l4 + (-1)) - 1), .ref v11] q16.2 nx _
            obtain ⟨h17, eh17, H⟩ := Option.bind_eq_some_iff.mp H
            refine ev_5 hc_X4_computed (fe_X4_computed (pc := 81) rfl) (wI_as eh17) ?_
            refine ev_go hc_X4_computed (k := 1) (pc' := 159) (L' := [.ref l0, .ref l1, .int l2, .int l3, .int (l4 + (-1)), .int l5, .int v6]) (S' := []) rfl ?_
            exact Ev.weak (ci_le_c (Or.inr rfl) (ci_le_c (Or.inr rfl) (ci_le_c (Or.inr rfl) (ci_le_c (Or.inr rfl) (ci_le_c (Or.inr rfl) (ci_le_c (Or.inr rfl) (ci_le_c (Or.inl rfl) (ci_le_n)))))))) (eb_X4_computed_159 hd ih H)
          · rw [if_neg c10] at H
            refine ev_bf hc_X4_computed (fe_X4_computed (pc := 42) rfl) rfl c10 ?_
            refine ev_go hc_X4_computed (k := 1) (pc' := 46) (L' := [.ref l0, .ref l1, .int l2, .int l3, .int l4, .int l5, .int v6]) (S' := [.int 0]) rfl ?_
            obtain rfl := Option.some.inj H
            exact ev_8 hc_X4_computed (fe_X4_computed (pc := 46) rfl) rfl
def F_X4_computed (a0 : Nat) (a1 : Nat) (a2 : Int32) (a3 : Int32) (h : ci_H) : Option (Int32 × ci_H) := if kO h a0 = some 4 then (b_X4_computed_6 a0 a1 a2 a3 bigN 0 0 h) else none
theorem K_X4_computed {a0 : Nat} {a1 : Nat} {a2 : Int32} {a3 : Int32} {h : ci_H} {r : Int32 × ci_H} (H : F_X4_computed a0 a1 a2 a3 h = some r) : kO h a0 = some 4 := by
  unfold F_X4_computed at H
  by_cases c : kO h a0 = some 4
  · exact c
  · rw [if_neg c] at H; cases H
set_option maxHeartbeats 4000000 in
set_option maxRecDepth 20000 in
theorem E_X4_computed {xs : Nat → Int32} {N d : Nat} {nx : ci_N} {a0 : Nat} {a1 : Nat} {a2 : Int32} {a3 : Int32} {h : ci_H} {r : Int32 × ci_H} (H : F_X4_computed a0 a1 a2 a3 h = some r) (hd : 2 ≤ d) : Ev xs N d 26 0 (ci_entry [.ref a0, .ref a1, .int a2, .int a3] 7) [] h nx (oI r nx) := by
  obtain ⟨d, rfl⟩ : ∃ d2, d = d2 + 1 := ⟨d - 1, by omega⟩
  have hd : 1 ≤ d := by omega
  unfold F_X4_computed at H
  by_cases ck : kO h a0 = some 4
  · rw [if_pos ck] at H
    show Ev xs N (d + 1) 26 0 [.ref a0, .ref a1, .int a2, .int a3, ci_junk, ci_junk, ci_junk] [] h nx _
    refine ev_go hc_X4_computed (k := 4) (pc' := 6) (L' := [.ref a0, .ref a1, .int a2, .int a3, .int 0, .int 0, ci_junk]) (S' := []) rfl ?_
    exact Ev.weak (ci_le_c (Or.inr rfl) (ci_le_c (Or.inr rfl) (ci_le_c (Or.inr rfl) (ci_le_c (Or.inr rfl) (ci_le_c (Or.inr rfl) (ci_le_c (Or.inr rfl) (ci_le_c (Or.inl rfl) (ci_le_n)))))))) (eb_X4_computed_6 hd bigN _ _ _ _ H)
  · rw [if_neg ck] at H; cases H
theorem hc_X4_value : ci_code (ci_Ms 25) = k_X4_value := rfl
theorem fe_X4_value {pc : Nat} {w : Option ci_I} (h : (k_X4_value)[pc]? = some w) : (k_X4_value)[pc]? = some w := h
def b_X4_value_40 (l4 : Int32)  (h : ci_H) : Option (Int32 × ci_H) := some (if 0 < (if l4 < 999 then l4 else 999) then if l4 < 999 then l4 else 999 else 0, h)
set_option maxHeartbeats 4000000 in
set_option maxRecDepth 20000 in
theorem eb_X4_value_40 {xs : Nat → Int32} {N d : Nat} {nx : ci_N} {l4 : Int32} (hd : 2 ≤ d) {h : ci_H} {r : Int32 × ci_H} (H : b_X4_value_40 l4 h = some r) : Ev xs N (d + 1) 25 40 [ci_junk, ci_junk, ci_junk, ci_junk, .int l4] [] h nx (oI r nx) := by
  unfold b_X4_value_40 at H
  refine ev_go hc_X4_value (k := 3) (pc' := 46) (L' := [ci_junk, ci_junk, ci_junk, ci_junk, .int l4]) (S' := [.int l4, .int 999, .int 0]) rfl ?_
  refine ev_15 hc_X4_value (fe_X4_value (pc := 46) rfl) (S' := [.int (if l4 < 999 then l4 else 999), .int 0]) rfl ?_
  refine ev_15 hc_X4_value (fe_X4_value (pc := 49) rfl) (S' := [.int (if 0 < (if l4 < 999 then l4 else 999) then if l4 < 999 then l4 else 999 else 0)]) rfl ?_
  obtain rfl := Option.some.inj H
  exact ev_8 hc_X4_value (fe_X4_value (pc := 52) rfl) rfl
def F_X4_value (a0 : Nat) (a1 : Nat) (a2 : Int32) (a3 : Int32) (h : ci_H) : Option (Int32 × ci_H) := if kO h a0 = some 4 then ((gI h a0 4 2).bind fun v1 => if v1 = 0 then ((F_X4_letter 116 a1 a2 a3 h).bind fun q3 => (F_X4_letter 107 a1 a2 a3 q3.2).bind fun q4 => b_X4_value_40 ((q3.1 * 3) + q4.1) q4.2) else ((F_X4_computed a0 a1 a2 a3 h).bind fun q5 => b_X4_value_40 q5.1 q5.2)) else none
theorem K_X4_value {a0 : Nat} {a1 : Nat} {a2 : Int32} {a3 : Int32} {h : ci_H} {r : Int32 × ci_H} (H : F_X4_value a0 a1 a2 a3 h = some r) : kO h a0 = some 4 := by
  unfold F_X4_value at H
  by_cases c : kO h a0 = some 4
  · exact c
  · rw [if_neg c] at H; cases H
set_option maxHeartbeats 4000000 in
set_option maxRecDepth 20000 in
theorem E_X4_value {xs : Nat → Int32} {N d : Nat} {nx : ci_N} {a0 : Nat} {a1 : Nat} {a2 : Int32} {a3 : Int32} {h : ci_H} {r : Int32 × ci_H} (H : F_X4_value a0 a1 a2 a3 h = some r) (hd : 3 ≤ d) : Ev xs N d 25 0 (ci_entry [.ref a0, .ref a1, .int a2, .int a3] 5) [] h nx (oI r nx) := by
  obtain ⟨d, rfl⟩ : ∃ d2, d = d2 + 1 := ⟨d - 1, by omega⟩
  have hd : 2 ≤ d := by omega
  unfold F_X4_value at H
  by_cases ck : kO h a0 = some 4
  · rw [if_pos ck] at H
    show Ev xs N (d + 1) 25 0 [.ref a0, .ref a1, .int a2, .int a3, ci_junk] [] h nx _
    refine ev_go hc_X4_value (k := 1) (pc' := 1) (L' := [.ref a0, .ref a1, .int a2, .int a3, ci_junk]) (S' := [.ref a0]) rfl ?_
    obtain ⟨v1, ev1, H⟩ := Option.bind_eq_some_iff.mp H
    refine ev_4 hc_X4_value (fe_X4_value (pc := 1) rfl) (gI_gf ev1) ?_
    by_cases c2 : v1 = 0
    · rw [if_pos c2] at H
      refine ev_bt hc_X4_value (fe_X4_value (pc := 4) rfl) rfl c2 ?_
      refine ev_go hc_X4_value (k := 4) (pc' := 12) (L' := [.ref a0, .ref a1, .int a2, .int a3, ci_junk]) (S' := [.int a3, .int a2, .ref a1, .int 116]) rfl ?_
      obtain ⟨q3, eq3, H⟩ := Option.bind_eq_some_iff.mp H
      refine ev_call (vs := [.int 116, .ref a1, .int a2, .int a3]) (rest := []) (q := q_X4_letter) hc_X4_value (Or.inl rfl) (fe_X4_value (pc := 12) rfl) ms_29 rfl rfl (Nat.le_of_ble_eq_true rfl) rfl (E_X4_letter eq3 (by omega)) rfl ?_
      show Ev xs N (d + 1) 25 15 [.ref a0, .ref a1, .int a2, .int a3, ci_junk] [.int q3.1] q3.2 nx _
      refine ev_go hc_X4_value (k := 6) (pc' := 22) (L' := [.ref a0, .ref a1, .int a2, .int a3, ci_junk]) (S' := [.int a3, .int a2, .ref a1, .int 107, .int (q3.1 * 3)]) rfl ?_
      obtain ⟨q4, eq4, H⟩ := Option.bind_eq_some_iff.mp H
      refine ev_call (vs := [.int 107, .ref a1, .int a2, .int a3]) (rest := [.int (q3.1 * 3)]) (q := q_X4_letter) hc_X4_value (Or.inl rfl) (fe_X4_value (pc := 22) rfl) ms_29 rfl rfl (Nat.le_of_ble_eq_true rfl) rfl (E_X4_letter eq4 (by omega)) rfl ?_
      show Ev xs N (d + 1) 25 25 [.ref a0, .ref a1, .int a2, .int a3, ci_junk] [.int q4.1, .int (q3.1 * 3)] q4.2 nx _
      refine ev_go hc_X4_value (k := 3) (pc' := 40) (L' := [.ref a0, .ref a1, .int a2, .int a3, .int ((q3.1 * 3) + q4.1)]) (S' := []) rfl ?_
      exact Ev.weak (ci_le_c (Or.inl rfl) (ci_le_c (Or.inl rfl) (ci_le_c (Or.inl rfl) (ci_le_c (Or.inl rfl) (ci_le_c (Or.inr rfl) (ci_le_n)))))) (eb_X4_value_40 hd H)
    · rw [if_neg c2] at H
      refine ev_bf hc_X4_value (fe_X4_value (pc := 4) rfl) rfl c2 ?_
      refine ev_go hc_X4_value (k := 4) (pc' := 35) (L' := [.ref a0, .ref a1, .int a2, .int a3, ci_junk]) (S' := [.int a3, .int a2, .ref a1, .ref a0]) rfl ?_
      obtain ⟨q5, eq5, H⟩ := Option.bind_eq_some_iff.mp H
      refine ev_call (vs := [.ref a0, .ref a1, .int a2, .int a3]) (rest := []) (q := q_X4_computed) hc_X4_value (Or.inr rfl) (fe_X4_value (pc := 35) rfl) ms_26 rfl rfl (Nat.le_of_ble_eq_true rfl) (kO_recv (K_X4_computed eq5)) (E_X4_computed eq5 (by omega)) rfl ?_
      show Ev xs N (d + 1) 25 38 [.ref a0, .ref a1, .int a2, .int a3, ci_junk] [.int q5.1] q5.2 nx _
      refine ev_go hc_X4_value (k := 1) (pc' := 40) (L' := [.ref a0, .ref a1, .int a2, .int a3, .int q5.1]) (S' := []) rfl ?_
      exact Ev.weak (ci_le_c (Or.inl rfl) (ci_le_c (Or.inl rfl) (ci_le_c (Or.inl rfl) (ci_le_c (Or.inl rfl) (ci_le_c (Or.inr rfl) (ci_le_n)))))) (eb_X4_value_40 hd H)
  · rw [if_neg ck] at H; cases H
theorem hc_X1_fillGains : ci_code (ci_Ms 6) = k_X1_fillGains := rfl
theorem fe_X1_fillGains {pc : Nat} {w : Option ci_I} (h : (k_X1_fillGains)[pc]? = some w) : (k_X1_fillGains)[pc]? = some w := h
def b_X1_fillGains_91 (r_19 : Int32 → ci_H → Option (ci_H)) (l0 : Nat) (l1 : Int32) (l2 : Int32) (l3 : Int32) (l4 : Int32) (s0 : Nat) (s1 : Int32) (s2 : Int32)  (h : ci_H) : Option (ci_H) := (wI h s0 s1 s2).bind fun h1 => r_19 (l4 + 1) h1
set_option maxHeartbeats 4000000 in
set_option maxRecDepth 20000 in
theorem eb_X1_fillGains_91 {xs : Nat → Int32} {N d : Nat} {nx : ci_N} {r_19 : Int32 → ci_H → Option (ci_H)} {l0 : Nat} {l1 : Int32} {l2 : Int32} {l3 : Int32} {l4 : Int32} {s0 : Nat} {s1 : Int32} {s2 : Int32} (hd : 3 ≤ d) (h_19 : ∀ (l4 : Int32) (h : ci_H) (r : ci_H), r_19 l4 h = some r → Ev xs N (d + 1) 6 19 [.ref l0, .int l1, .int l2, .int l3, .int l4, ci_junk] [] h nx (oV r nx)) {h : ci_H} {r : ci_H} (H : b_X1_fillGains_91 r_19 l0 l1 l2 l3 l4 s0 s1 s2 h = some r) : Ev xs N (d + 1) 6 91 [.ref l0, .int l1, .int l2, .int l3, .int l4, ci_junk] [.int s2, .int s1, .ref s0] h nx (oV r nx) := by
  unfold b_X1_fillGains_91 at H
  obtain ⟨h1, eh1, H⟩ := Option.bind_eq_some_iff.mp H
  refine ev_5 hc_X1_fillGains (fe_X1_fillGains (pc := 91) rfl) (wI_as eh1) ?_
  refine ev_go hc_X1_fillGains (k := 2) (pc' := 19) (L' := [.ref l0, .int l1, .int l2, .int l3, .int (l4 + 1), ci_junk]) (S' := []) rfl ?_
  exact Ev.weak (ci_le_c (Or.inr rfl) (ci_le_c (Or.inr rfl) (ci_le_c (Or.inr rfl) (ci_le_c (Or.inr rfl) (ci_le_c (Or.inr rfl) (ci_le_c (Or.inl rfl) (ci_le_n))))))) (h_19 _ _ _ H)
def b_X1_fillGains_58 (r_19 : Int32 → ci_H → Option (ci_H)) (l0 : Nat) (l1 : Int32) (l2 : Int32) (l3 : Int32) (l4 : Int32) (s0 : Int32)  (h : ci_H) : Option (ci_H) := (gR h l0 1 2).bind fun v1 => (rR h v1 l1).bind fun v2 => if s0 = 0 then (b_X1_fillGains_91 r_19 l0 l1 l2 l3 l4 v2 l4 ((-1)) h) else ((gR h l0 1 1).bind fun v4 => (gR h l0 1 0).bind fun v5 => (F_X4_value v4 v5 l4 l1 h).bind fun q6 => b_X1_fillGains_91 r_19 l0 l1 l2 l3 l4 v2 l4 q6.1 q6.2)
set_option maxHeartbeats 4000000 in
set_option maxRecDepth 20000 in
theorem eb_X1_fillGains_58 {xs : Nat → Int32} {N d : Nat} {nx : ci_N} {r_19 : Int32 → ci_H → Option (ci_H)} {l0 : Nat} {l1 : Int32} {l2 : Int32} {l3 : Int32} {l4 : Int32} {s0 : Int32} (hd : 3 ≤ d) (h_19 : ∀ (l4 : Int32) (h : ci_H) (r : ci_H), r_19 l4 h = some r → Ev xs N (d + 1) 6 19 [.ref l0, .int l1, .int l2, .int l3, .int l4, ci_junk] [] h nx (oV r nx)) {h : ci_H} {r : ci_H} (H : b_X1_fillGains_58 r_19 l0 l1 l2 l3 l4 s0 h = some r) : Ev xs N (d + 1) 6 58 [.ref l0, .int l1, .int l2, .int l3, .int l4, ci_junk] [.int s0] h nx (oV r nx) := by
  unfold b_X1_fillGains_58 at H
  refine ev_go hc_X1_fillGains (k := 2) (pc' := 61) (L' := [.ref l0, .int l1, .int l2, .int l3, .int l4, .int s0]) (S' := [.ref l0]) rfl ?_
  obtain ⟨v1, ev1, H⟩ := Option.bind_eq_some_iff.mp H
  refine ev_4 hc_X1_fillGains (fe_X1_fillGains (pc := 61) rfl) (gR_gf ev1) ?_
  refine ev_go hc_X1_fillGains (k := 1) (pc' := 65) (L' := [.ref l0, .int l1, .int l2, .int l3, .int l4, .int s0]) (S' := [.int l1, .ref v1]) rfl ?_
  obtain ⟨v2, ev2, H⟩ := Option.bind_eq_some_iff.mp H
  refine ev_4 hc_X1_fillGains (fe_X1_fillGains (pc := 65) rfl) (rR_al ev2) ?_
  refine ev_go hc_X1_fillGains (k := 2) (pc' := 70) (L' := [.ref l0, .int l1, .int l2, .int l3, .int l4, .int s0]) (S' := [.int s0, .int l4, .ref v2]) rfl ?_
  by_cases c3 : s0 = 0
  · rw [if_pos c3] at H
    refine ev_bt hc_X1_fillGains (fe_X1_fillGains (pc := 70) rfl) rfl c3 ?_
    refine ev_go hc_X1_fillGains (k := 1) (pc' := 91) (L' := [.ref l0, .int l1, .int l2, .int l3, .int l4, .int s0]) (S' := [.int ((-1)), .int l4, .ref v2]) rfl ?_
    exact Ev.weak (ci_le_c (Or.inr rfl) (ci_le_c (Or.inr rfl) (ci_le_c (Or.inr rfl) (ci_le_c (Or.inr rfl) (ci_le_c (Or.inr rfl) (ci_le_c (Or.inl rfl) (ci_le_n))))))) (eb_X1_fillGains_91 hd h_19 H)
  · rw [if_neg c3] at H
    refine ev_bf hc_X1_fillGains (fe_X1_fillGains (pc := 70) rfl) rfl c3 ?_
    refine ev_go hc_X1_fillGains (k := 1) (pc' := 74) (L' := [.ref l0, .int l1, .int l2, .int l3, .int l4, .int s0]) (S' := [.ref l0, .int l4, .ref v2]) rfl ?_
    obtain ⟨v4, ev4, H⟩ := Option.bind_eq_some_iff.mp H
    refine ev_4 hc_X1_fillGains (fe_X1_fillGains (pc := 74) rfl) (gR_gf ev4) ?_
    refine ev_go hc_X1_fillGains (k := 1) (pc' := 78) (L' := [.ref l0, .int l1, .int l2, .int l3, .int l4, .int s0]) (S' := [.ref l0, .ref v4, .int l4, .ref v2]) rfl ?_
    obtain ⟨v5, ev5, H⟩ := Option.bind_eq_some_iff.mp H
    refine ev_4 hc_X1_fillGains (fe_X1_fillGains (pc := 78) rfl) (gR_gf ev5) ?_
    refine ev_go hc_X1_fillGains (k := 2) (pc' := 84) (L' := [.ref l0, .int l1, .int l2, .int l3, .int l4, .int s0]) (S' := [.int l1, .int l4, .ref v5, .ref v4, .int l4, .ref v2]) rfl ?_
    obtain ⟨q6, eq6, H⟩ := Option.bind_eq_some_iff.mp H
    refine ev_call (vs := [.ref v4, .ref v5, .int l4, .int l1]) (rest := [.int l4, .ref v2]) (q := q_X4_value) hc_X1_fillGains (Or.inr rfl) (fe_X1_fillGains (pc := 84) rfl) ms_25 rfl rfl (Nat.le_of_ble_eq_true rfl) (kO_recv (K_X4_value eq6)) (E_X4_value eq6 (by omega)) rfl ?_
    show Ev xs N (d + 1) 6 87 [.ref l0, .int l1, .int l2, .int l3, .int l4, .int s0] [.int q6.1, .int l4, .ref v2] q6.2 nx _
    refine ev_go hc_X1_fillGains (k := 1) (pc' := 91) (L' := [.ref l0, .int l1, .int l2, .int l3, .int l4, .int s0]) (S' := [.int q6.1, .int l4, .ref v2]) rfl ?_
    exact Ev.weak (ci_le_c (Or.inr rfl) (ci_le_c (Or.inr rfl) (ci_le_c (Or.inr rfl) (ci_le_c (Or.inr rfl) (ci_le_c (Or.inr rfl) (ci_le_c (Or.inl rfl) (ci_le_n))))))) (eb_X1_fillGains_91 hd h_19 H)
def b_X1_fillGains_57 (r_19 : Int32 → ci_H → Option (ci_H)) (l0 : Nat) (l1 : Int32) (l2 : Int32) (l3 : Int32) (l4 : Int32)  (h : ci_H) : Option (ci_H) := b_X1_fillGains_58 r_19 l0 l1 l2 l3 l4 0 h
set_option maxHeartbeats 4000000 in
set_option maxRecDepth 20000 in
theorem eb_X1_fillGains_57 {xs : Nat → Int32} {N d : Nat} {nx : ci_N} {r_19 : Int32 → ci_H → Option (ci_H)} {l0 : Nat} {l1 : Int32} {l2 : Int32} {l3 : Int32} {l4 : Int32} (hd : 3 ≤ d) (h_19 : ∀ (l4 : Int32) (h : ci_H) (r : ci_H), r_19 l4 h = some r → Ev xs N (d + 1) 6 19 [.ref l0, .int l1, .int l2, .int l3, .int l4, ci_junk] [] h nx (oV r nx)) {h : ci_H} {r : ci_H} (H : b_X1_fillGains_57 r_19 l0 l1 l2 l3 l4 h = some r) : Ev xs N (d + 1) 6 57 [.ref l0, .int l1, .int l2, .int l3, .int l4, ci_junk] [] h nx (oV r nx) := by
  unfold b_X1_fillGains_57 at H
  refine ev_go hc_X1_fillGains (k := 1) (pc' := 58) (L' := [.ref l0, .int l1, .int l2, .int l3, .int l4, ci_junk]) (S' := [.int 0]) rfl ?_
  exact Ev.weak (ci_le_c (Or.inr rfl) (ci_le_c (Or.inr rfl) (ci_le_c (Or.inr rfl) (ci_le_c (Or.inr rfl) (ci_le_c (Or.inr rfl) (ci_le_c (Or.inl rfl) (ci_le_n))))))) (eb_X1_fillGains_58 hd h_19 H)
def b_X1_fillGains_19 (l0 : Nat) (l1 : Int32) (l2 : Int32) (l3 : Int32) : Nat → Int32 → ci_H → Option (ci_H)
  | 0, _, _ => none
  | n + 1, l4, h => (gR h l0 1 0).bind fun v1 => (gI h v1 10 6).bind fun v2 => if v2 ≤ l4 then (some h) else (if ((l2 >>> (l4 &&& 31)) &&& 1) = 0 then (b_X1_fillGains_57 (fun x0 x1 => b_X1_fillGains_19 l0 l1 l2 l3 n x0 x1) l0 l1 l2 l3 l4 h) else ((gR h l0 1 0).bind fun v5 => (F_X10_fits v5 l3 l4 h).bind fun q6 => if q6.1 = 0 then (b_X1_fillGains_57 (fun x0 x1 => b_X1_fillGains_19 l0 l1 l2 l3 n x0 x1) l0 l1 l2 l3 l4 q6.2) else (b_X1_fillGains_58 (fun x0 x1 => b_X1_fillGains_19 l0 l1 l2 l3 n x0 x1) l0 l1 l2 l3 l4 1 q6.2)))
set_option maxHeartbeats 4000000 in
set_option maxRecDepth 20000 in
theorem eb_X1_fillGains_19 {xs : Nat → Int32} {N d : Nat} {nx : ci_N} {l0 : Nat} {l1 : Int32} {l2 : Int32} {l3 : Int32} (hd : 3 ≤ d) : ∀ (n : Nat) (l4 : Int32) (h : ci_H) (r : ci_H), b_X1_fillGains_19 l0 l1 l2 l3 n l4 h = some r → Ev xs N (d + 1) 6 19 [.ref l0, .int l1, .int l2, .int l3, .int l4, ci_junk] [] h nx (oV r nx) := by
  intro n
  induction n with
  | zero => intro l4 h r H; unfold b_X1_fillGains_19 at H; cases H
  | succ n ih =>
    intro l4 h r H
    unfold b_X1_fillGains_19 at H
    refine ev_go hc_X1_fillGains (k := 2) (pc' := 22) (L' := [.ref l0, .int l1, .int l2, .int l3, .int l4, ci_junk]) (S' := [.ref l0, .int l4]) rfl ?_
    obtain ⟨v1, ev1, H⟩ := Option.bind_eq_some_iff.mp H
    refine ev_4 hc_X1_fillGains (fe_X1_fillGains (pc := 22) rfl) (gR_gf ev1) ?_
    obtain ⟨v2, ev2, H⟩ := Option.bind_eq_some_iff.mp H
    refine ev_4 hc_X1_fillGains (fe_X1_fillGains (pc := 25) rfl) (gI_gf ev2) ?_
    by_cases c3 : v2 ≤ l4
    · rw [if_pos c3] at H
      refine ev_bt hc_X1_fillGains (fe_X1_fillGains (pc := 28) rfl) rfl c3 ?_
      obtain rfl := Option.some.inj H
      exact ev_8 hc_X1_fillGains (fe_X1_fillGains (pc := 98) rfl) rfl
    · rw [if_neg c3] at H
      refine ev_bf hc_X1_fillGains (fe_X1_fillGains (pc := 28) rfl) rfl c3 ?_
      refine ev_go hc_X1_fillGains (k := 5) (pc' := 37) (L' := [.ref l0, .int l1, .int l2, .int l3, .int l4, ci_junk]) (S' := [.int ((l2 >>> (l4 &&& 31)) &&& 1)]) rfl ?_
      by_cases c4 : ((l2 >>> (l4 &&& 31)) &&& 1) = 0
      · rw [if_pos c4] at H
        refine ev_bt hc_X1_fillGains (fe_X1_fillGains (pc := 37) rfl) rfl c4 ?_
        exact Ev.weak (ci_le_c (Or.inr rfl) (ci_le_c (Or.inr rfl) (ci_le_c (Or.inr rfl) (ci_le_c (Or.inr rfl) (ci_le_c (Or.inr rfl) (ci_le_c (Or.inl rfl) (ci_le_n))))))) (eb_X1_fillGains_57 hd ih H)
      · rw [if_neg c4] at H
        refine ev_bf hc_X1_fillGains (fe_X1_fillGains (pc := 37) rfl) rfl c4 ?_
        refine ev_go hc_X1_fillGains (k := 1) (pc' := 41) (L' := [.ref l0, .int l1, .int l2, .int l3, .int l4, ci_junk]) (S' := [.ref l0]) rfl ?_
        obtain ⟨v5, ev5, H⟩ := Option.bind_eq_some_iff.mp H
        refine ev_4 hc_X1_fillGains (fe_X1_fillGains (pc := 41) rfl) (gR_gf ev5) ?_
        refine ev_go hc_X1_fillGains (k := 2) (pc' := 47) (L' := [.ref l0, .int l1, .int l2, .int l3, .int l4, ci_junk]) (S' := [.int l4, .int l3, .ref v5]) rfl ?_
        obtain ⟨q6, eq6, H⟩ := Option.bind_eq_some_iff.mp H
        refine ev_call (vs := [.ref v5, .int l3, .int l4]) (rest := []) (q := q_X10_fits) hc_X1_fillGains (Or.inr rfl) (fe_X1_fillGains (pc := 47) rfl) ms_83 rfl rfl (Nat.le_of_ble_eq_true rfl) (kO_recv (K_X10_fits eq6)) (E_X10_fits eq6 (by omega)) rfl ?_
        show Ev xs N (d + 1) 6 50 [.ref l0, .int l1, .int l2, .int l3, .int l4, ci_junk] [.int q6.1] q6.2 nx _
        by_cases c7 : q6.1 = 0
        · rw [if_pos c7] at H
          refine ev_bt hc_X1_fillGains (fe_X1_fillGains (pc := 50) rfl) rfl c7 ?_
          exact Ev.weak (ci_le_c (Or.inr rfl) (ci_le_c (Or.inr rfl) (ci_le_c (Or.inr rfl) (ci_le_c (Or.inr rfl) (ci_le_c (Or.inr rfl) (ci_le_c (Or.inl rfl) (ci_le_n))))))) (eb_X1_fillGains_57 hd ih H)
        · rw [if_neg c7] at H
          refine ev_bf hc_X1_fillGains (fe_X1_fillGains (pc := 50) rfl) rfl c7 ?_
          refine ev_go hc_X1_fillGains (k := 2) (pc' := 58) (L' := [.ref l0, .int l1, .int l2, .int l3, .int l4, ci_junk]) (S' := [.int 1]) rfl ?_
          exact Ev.weak (ci_le_c (Or.inr rfl) (ci_le_c (Or.inr rfl) (ci_le_c (Or.inr rfl) (ci_le_c (Or.inr rfl) (ci_le_c (Or.inr rfl) (ci_le_c (Or.inl rfl) (ci_le_n))))))) (eb_X1_fillGains_58 hd ih H)
def F_X1_fillGains (a0 : Nat) (a1 : Int32) (a2 : Int32) (h : ci_H) : Option (ci_H) := if kO h a0 = some 1 then ((gR h a0 1 0).bind fun v1 => (gR h a0 1 0).bind fun v2 => (F_X10_keptBy v2 a1 h).bind fun q3 => (F_X10_loadOf v1 q3.1 q3.2).bind fun q4 => b_X1_fillGains_19 a0 a1 a2 q4.1 bigN 0 q4.2) else none
theorem K_X1_fillGains {a0 : Nat} {a1 : Int32} {a2 : Int32} {h : ci_H} {r : ci_H} (H : F_X1_fillGains a0 a1 a2 h = some r) : kO h a0 = some 1 := by
  unfold F_X1_fillGains at H
  by_cases c : kO h a0 = some 1
  · exact c
  · rw [if_neg c] at H; cases H
set_option maxHeartbeats 4000000 in
set_option maxRecDepth 20000 in
theorem E_X1_fillGains {xs : Nat → Int32} {N d : Nat} {nx : ci_N} {a0 : Nat} {a1 : Int32} {a2 : Int32} {h : ci_H} {r : ci_H} (H : F_X1_fillGains a0 a1 a2 h = some r) (hd : 4 ≤ d) : Ev xs N d 6 0 (ci_entry [.ref a0, .int a1, .int a2] 6) [] h nx (oV r nx) := by
  obtain ⟨d, rfl⟩ : ∃ d2, d = d2 + 1 := ⟨d - 1, by omega⟩
  have hd : 3 ≤ d := by omega
  unfold F_X1_fillGains at H
  by_cases ck : kO h a0 = some 1
  · rw [if_pos ck] at H
    show Ev xs N (d + 1) 6 0 [.ref a0, .int a1, .int a2, ci_junk, ci_junk, ci_junk] [] h nx _
    refine ev_go hc_X1_fillGains (k := 1) (pc' := 1) (L' := [.ref a0, .int a1, .int a2, ci_junk, ci_junk, ci_junk]) (S' := [.ref a0]) rfl ?_
    obtain ⟨v1, ev1, H⟩ := Option.bind_eq_some_iff.mp H
    refine ev_4 hc_X1_fillGains (fe_X1_fillGains (pc := 1) rfl) (gR_gf ev1) ?_
    refine ev_go hc_X1_fillGains (k := 1) (pc' := 5) (L' := [.ref a0, .int a1, .int a2, ci_junk, ci_junk, ci_junk]) (S' := [.ref a0, .ref v1]) rfl ?_
    obtain ⟨v2, ev2, H⟩ := Option.bind_eq_some_iff.mp H
    refine ev_4 hc_X1_fillGains (fe_X1_fillGains (pc := 5) rfl) (gR_gf ev2) ?_
    refine ev_go hc_X1_fillGains (k := 1) (pc' := 9) (L' := [.ref a0, .int a1, .int a2, ci_junk, ci_junk, ci_junk]) (S' := [.int a1, .ref v2, .ref v1]) rfl ?_
    obtain ⟨q3, eq3, H⟩ := Option.bind_eq_some_iff.mp H
    refine ev_call (vs := [.ref v2, .int a1]) (rest := [.ref v1]) (q := q_X10_keptBy) hc_X1_fillGains (Or.inr rfl) (fe_X1_fillGains (pc := 9) rfl) ms_75 rfl rfl (Nat.le_of_ble_eq_true rfl) (kO_recv (K_X10_keptBy eq3)) (E_X10_keptBy eq3 (by omega)) rfl ?_
    show Ev xs N (d + 1) 6 12 [.ref a0, .int a1, .int a2, ci_junk, ci_junk, ci_junk] [.int q3.1, .ref v1] q3.2 nx _
    obtain ⟨q4, eq4, H⟩ := Option.bind_eq_some_iff.mp H
    refine ev_call (vs := [.ref v1, .int q3.1]) (rest := []) (q := q_X10_loadOf) hc_X1_fillGains (Or.inr rfl) (fe_X1_fillGains (pc := 12) rfl) ms_82 rfl rfl (Nat.le_of_ble_eq_true rfl) (kO_recv (K_X10_loadOf eq4)) (E_X10_loadOf eq4 (by omega)) rfl ?_
    show Ev xs N (d + 1) 6 15 [.ref a0, .int a1, .int a2, ci_junk, ci_junk, ci_junk] [.int q4.1] q4.2 nx _
    refine ev_go hc_X1_fillGains (k := 3) (pc' := 19) (L' := [.ref a0, .int a1, .int a2, .int q4.1, .int 0, ci_junk]) (S' := []) rfl ?_
    exact Ev.weak (ci_le_c (Or.inr rfl) (ci_le_c (Or.inr rfl) (ci_le_c (Or.inr rfl) (ci_le_c (Or.inr rfl) (ci_le_c (Or.inr rfl) (ci_le_c (Or.inl rfl) (ci_le_n))))))) (eb_X1_fillGains_19 hd bigN _ _ _ H)
  · rw [if_neg ck] at H; cases H
theorem hc_X1_addThing : ci_code (ci_Ms 9) = k_X1_addThing := rfl
theorem fe_X1_addThing {pc : Nat} {w : Option ci_I} (h : (k_X1_addThing)[pc]? = some w) : (k_X1_addThing)[pc]? = some w := h
def b_X1_addThing_89 (r_5 : Int32 → ci_H → Option (ci_H)) (r_13 : Int32 → ci_H → Option (ci_H)) (l0 : Nat) (l1 : Int32) (l2 : Int32) (l4 : Int32) (l5 : Int32)  (h : ci_H) : Option (ci_H) := r_13 (l5 + 1) h
set_option maxHeartbeats 4000000 in
set_option maxRecDepth 20000 in
theorem eb_X1_addThing_89 {xs : Nat → Int32} {N d : Nat} {nx : ci_N} {r_5 : Int32 → ci_H → Option (ci_H)} {r_13 : Int32 → ci_H → Option (ci_H)} {l0 : Nat} {l1 : Int32} {l2 : Int32} {l4 : Int32} {l5 : Int32} (h_5 : ∀ (l4 : Int32) (h : ci_H) (r : ci_H), r_5 l4 h = some r → Ev xs N d 9 5 [.ref l0, .int l1, .int l2, ci_junk, .int l4, ci_junk, ci_junk, ci_junk] [] h nx (oV r nx)) (h_13 : ∀ (l5 : Int32) (h : ci_H) (r : ci_H), r_13 l5 h = some r → Ev xs N d 9 13 [.ref l0, .int l1, .int l2, ci_junk, .int l4, .int l5, ci_junk, ci_junk] [] h nx (oV r nx)) {h : ci_H} {r : ci_H} (H : b_X1_addThing_89 r_5 r_13 l0 l1 l2 l4 l5 h = some r) : Ev xs N d 9 89 [.ref l0, .int l1, .int l2, ci_junk, .int l4, .int l5, ci_junk, ci_junk] [] h nx (oV r nx) := by
  unfold b_X1_addThing_89 at H
  refine ev_go hc_X1_addThing (k := 2) (pc' := 13) (L' := [.ref l0, .int l1, .int l2, ci_junk, .int l4, .int (l5 + 1), ci_junk, ci_junk]) (S' := []) rfl ?_
  exact Ev.weak (ci_le_c (Or.inr rfl) (ci_le_c (Or.inr rfl) (ci_le_c (Or.inr rfl) (ci_le_c (Or.inl rfl) (ci_le_c (Or.inr rfl) (ci_le_c (Or.inr rfl) (ci_le_c (Or.inl rfl) (ci_le_c (Or.inl rfl) (ci_le_n))))))))) (h_13 _ _ _ H)
def b_X1_addThing_13 (r_5 : Int32 → ci_H → Option (ci_H)) (l0 : Nat) (l1 : Int32) (l2 : Int32) (l4 : Int32) : Nat → Int32 → ci_H → Option (ci_H)
  | 0, _, _ => none
  | n + 1, l5, h => (gR h l0 1 0).bind fun v1 => (gI h v1 10 5).bind fun v2 => if v2 ≤ l5 then (r_5 (l4 + (-1)) h) else ((gR h l0 1 2).bind fun v4 => (rR h v4 l5).bind fun v5 => (rI h v5 l1).bind fun v6 => if (l4 &&& ((1 : Int32) <<< ((l5 - l2) &&& 31))) = 0 then (b_X1_addThing_89 r_5 (fun x0 x1 => b_X1_addThing_13 r_5 l0 l1 l2 l4 n x0 x1) l0 l1 l2 l4 l5 h) else (if v6 < 0 then (b_X1_addThing_89 r_5 (fun x0 x1 => b_X1_addThing_13 r_5 l0 l1 l2 l4 n x0 x1) l0 l1 l2 l4 l5 h) else ((gR h l0 1 3).bind fun v9 => (gR h l0 1 3).bind fun v10 => (rI h v10 l4).bind fun v11 => (gR h l0 1 3).bind fun v12 => (rI h v12 (l4 &&& (((1 : Int32) <<< ((l5 - l2) &&& 31)) ^^^ ((-1))))).bind fun v13 => (wI h v9 l4 (if v11 < (v13 + v6) then v13 + v6 else v11)).bind fun h14 => b_X1_addThing_89 r_5 (fun x0 x1 => b_X1_addThing_13 r_5 l0 l1 l2 l4 n x0 x1) l0 l1 l2 l4 l5 h14)))
set_option maxHeartbeats 4000000 in
set_option maxRecDepth 20000 in
theorem eb_X1_addThing_13 {xs : Nat → Int32} {N d : Nat} {nx : ci_N} {r_5 : Int32 → ci_H → Option (ci_H)} {l0 : Nat} {l1 : Int32} {l2 : Int32} {l4 : Int32} (h_5 : ∀ (l4 : Int32) (h : ci_H) (r : ci_H), r_5 l4 h = some r → Ev xs N d 9 5 [.ref l0, .int l1, .int l2, ci_junk, .int l4, ci_junk, ci_junk, ci_junk] [] h nx (oV r nx)) : ∀ (n : Nat) (l5 : Int32) (h : ci_H) (r : ci_H), b_X1_addThing_13 r_5 l0 l1 l2 l4 n l5 h = some r → Ev xs N d 9 13 [.ref l0, .int l1, .int l2, ci_junk, .int l4, .int l5, ci_junk, ci_junk] [] h nx (oV r nx) := by
  intro n
  induction n with
  | zero => intro l5 h r H; unfold b_X1_addThing_13 at H; cases H
  | succ n ih =>
    intro l5 h r H
    unfold b_X1_addThing_13 at H
    refine ev_go hc_X1_addThing (k := 2) (pc' := 16) (L' := [.ref l0, .int l1, .int l2, ci_junk, .int l4, .int l5, ci_junk, ci_junk]) (S' := [.ref l0, .int l5]) rfl ?_
    obtain ⟨v1, ev1, H⟩ := Option.bind_eq_some_iff.mp H
    refine ev_4 hc_X1_addThing (fe_X1_addThing (pc := 16) rfl) (gR_gf ev1) ?_
    obtain ⟨v2, ev2, H⟩ := Option.bind_eq_some_iff.mp H
    refine ev_4 hc_X1_addThing (fe_X1_addThing (pc := 19) rfl) (gI_gf ev2) ?_
    by_cases c3 : v2 ≤ l5
    · rw [if_pos c3] at H
      refine ev_bt hc_X1_addThing (fe_X1_addThing (pc := 22) rfl) rfl c3 ?_
      refine ev_go hc_X1_addThing (k := 2) (pc' := 5) (L' := [.ref l0, .int l1, .int l2, ci_junk, .int (l4 + (-1)), .int l5, ci_junk, ci_junk]) (S' := []) rfl ?_
      exact Ev.weak (ci_le_c (Or.inr rfl) (ci_le_c (Or.inr rfl) (ci_le_c (Or.inr rfl) (ci_le_c (Or.inl rfl) (ci_le_c (Or.inr rfl) (ci_le_c (Or.inl rfl) (ci_le_c (Or.inl rfl) (ci_le_c (Or.inl rfl) (ci_le_n))))))))) (h_5 _ _ _ H)
    · rw [if_neg c3] at H
      refine ev_bf hc_X1_addThing (fe_X1_addThing (pc := 22) rfl) rfl c3 ?_
      refine ev_go hc_X1_addThing (k := 7) (pc' := 34) (L' := [.ref l0, .int l1, .int l2, ci_junk, .int l4, .int l5, .int ((1 : Int32) <<< ((l5 - l2) &&& 31)), ci_junk]) (S' := [.ref l0]) rfl ?_
      obtain ⟨v4, ev4, H⟩ := Option.bind_eq_some_iff.mp H
      refine ev_4 hc_X1_addThing (fe_X1_addThing (pc := 34) rfl) (gR_gf ev4) ?_
      refine ev_go hc_X1_addThing (k := 1) (pc' := 39) (L' := [.ref l0, .int l1, .int l2, ci_junk, .int l4, .int l5, .int ((1 : Int32) <<< ((l5 - l2) &&& 31)), ci_junk]) (S' := [.int l5, .ref v4]) rfl ?_
      obtain ⟨v5, ev5, H⟩ := Option.bind_eq_some_iff.mp H
      refine ev_4 hc_X1_addThing (fe_X1_addThing (pc := 39) rfl) (rR_al ev5) ?_
      refine ev_go hc_X1_addThing (k := 1) (pc' := 41) (L' := [.ref l0, .int l1, .int l2, ci_junk, .int l4, .int l5, .int ((1 : Int32) <<< ((l5 - l2) &&& 31)), ci_junk]) (S' := [.int l1, .ref v5]) rfl ?_
      obtain ⟨v6, ev6, H⟩ := Option.bind_eq_some_iff.mp H
      refine ev_4 hc_X1_addThing (fe_X1_addThing (pc := 41) rfl) (rI_al ev6) ?_
      refine ev_go hc_X1_addThing (k := 4) (pc' := 49) (L' := [.ref l0, .int l1, .int l2, ci_junk, .int l4, .int l5, .int ((1 : Int32) <<< ((l5 - l2) &&& 31)), .int v6]) (S' := [.int (l4 &&& ((1 : Int32) <<< ((l5 - l2) &&& 31)))]) rfl ?_
      by_cases c7 : (l4 &&& ((1 : Int32) <<< ((l5 - l2) &&& 31))) = 0
      · rw [if_pos c7] at H
        refine ev_bt hc_X1_addThing (fe_X1_addThing (pc := 49) rfl) rfl c7 ?_
        exact Ev.weak (ci_le_c (Or.inr rfl) (ci_le_c (Or.inr rfl) (ci_le_c (Or.inr rfl) (ci_le_c (Or.inl rfl) (ci_le_c (Or.inr rfl) (ci_le_c (Or.inr rfl) (ci_le_c (Or.inl rfl) (ci_le_c (Or.inl rfl) (ci_le_n))))))))) (eb_X1_addThing_89 h_5 ih H)
      · rw [if_neg c7] at H
        refine ev_bf hc_X1_addThing (fe_X1_addThing (pc := 49) rfl) rfl c7 ?_
        refine ev_go hc_X1_addThing (k := 1) (pc' := 54) (L' := [.ref l0, .int l1, .int l2, ci_junk, .int l4, .int l5, .int ((1 : Int32) <<< ((l5 - l2) &&& 31)), .int v6]) (S' := [.int v6]) rfl ?_
        by_cases c8 : v6 < 0
        · rw [if_pos c8] at H
          refine ev_bt hc_X1_addThing (fe_X1_addThing (pc := 54) rfl) rfl c8 ?_
          exact Ev.weak (ci_le_c (Or.inr rfl) (ci_le_c (Or.inr rfl) (ci_le_c (Or.inr rfl) (ci_le_c (Or.inl rfl) (ci_le_c (Or.inr rfl) (ci_le_c (Or.inr rfl) (ci_le_c (Or.inl rfl) (ci_le_c (Or.inl rfl) (ci_le_n))))))))) (eb_X1_addThing_89 h_5 ih H)
        · rw [if_neg c8] at H
          refine ev_bf hc_X1_addThing (fe_X1_addThing (pc := 54) rfl) rfl c8 ?_
          refine ev_go hc_X1_addThing (k := 1) (pc' := 58) (L' := [.ref l0, .int l1, .int l2, ci_junk, .int l4, .int l5, .int ((1 : Int32) <<< ((l5 - l2) &&& 31)), .int v6]) (S' := [.ref l0]) rfl ?_
          obtain ⟨v9, ev9, H⟩ := Option.bind_eq_some_iff.mp H
          refine ev_4 hc_X1_addThing (fe_X1_addThing (pc := 58) rfl) (gR_gf ev9) ?_
          refine ev_go hc_X1_addThing (k := 2) (pc' := 64) (L' := [.ref l0, .int l1, .int l2, ci_junk, .int l4, .int l5, .int ((1 : Int32) <<< ((l5 - l2) &&& 31)), .int v6]) (S' := [.ref l0, .int l4, .ref v9]) rfl ?_
          obtain ⟨v10, ev10, H⟩ := Option.bind_eq_some_iff.mp H
          refine ev_4 hc_X1_addThing (fe_X1_addThing (pc := 64) rfl) (gR_gf ev10) ?_
          refine ev_go hc_X1_addThing (k := 1) (pc' := 69) (L' := [.ref l0, .int l1, .int l2, ci_junk, .int l4, .int l5, .int ((1 : Int32) <<< ((l5 - l2) &&& 31)), .int v6]) (S' := [.int l4, .ref v10, .int l4, .ref v9]) rfl ?_
          obtain ⟨v11, ev11, H⟩ := Option.bind_eq_some_iff.mp H
          refine ev_4 hc_X1_addThing (fe_X1_addThing (pc := 69) rfl) (rI_al ev11) ?_
          refine ev_go hc_X1_addThing (k := 1) (pc' := 71) (L' := [.ref l0, .int l1, .int l2, ci_junk, .int l4, .int l5, .int ((1 : Int32) <<< ((l5 - l2) &&& 31)), .int v6]) (S' := [.ref l0, .int v11, .int l4, .ref v9]) rfl ?_
          obtain ⟨v12, ev12, H⟩ := Option.bind_eq_some_iff.mp H
          refine ev_4 hc_X1_addThing (fe_X1_addThing (pc := 71) rfl) (gR_gf ev12) ?_
          refine ev_go hc_X1_addThing (k := 5) (pc' := 81) (L' := [.ref l0, .int l1, .int l2, ci_junk, .int l4, .int l5, .int ((1 : Int32) <<< ((l5 - l2) &&& 31)), .int v6]) (S' := [.int (l4 &&& (((1 : Int32) <<< ((l5 - l2) &&& 31)) ^^^ ((-1)))), .ref v12, .int v11, .int l4, .ref v9]) rfl ?_
          obtain ⟨v13, ev13, H⟩ := Option.bind_eq_some_iff.mp H
          refine ev_4 hc_X1_addThing (fe_X1_addThing (pc := 81) rfl) (rI_al ev13) ?_
          refine ev_go hc_X1_addThing (k := 2) (pc' := 85) (L' := [.ref l0, .int l1, .int l2, ci_junk, .int l4, .int l5, .int ((1 : Int32) <<< ((l5 - l2) &&& 31)), .int v6]) (S' := [.int (v13 + v6), .int v11, .int l4, .ref v9]) rfl ?_
          refine ev_15 hc_X1_addThing (fe_X1_addThing (pc := 85) rfl) (S' := [.int (if v11 < (v13 + v6) then v13 + v6 else v11), .int l4, .ref v9]) rfl ?_
          obtain ⟨h14, eh14, H⟩ := Option.bind_eq_some_iff.mp H
          refine ev_5 hc_X1_addThing (fe_X1_addThing (pc := 88) rfl) (wI_as eh14) ?_
          exact Ev.weak (ci_le_c (Or.inr rfl) (ci_le_c (Or.inr rfl) (ci_le_c (Or.inr rfl) (ci_le_c (Or.inl rfl) (ci_le_c (Or.inr rfl) (ci_le_c (Or.inr rfl) (ci_le_c (Or.inl rfl) (ci_le_c (Or.inl rfl) (ci_le_n))))))))) (eb_X1_addThing_89 h_5 ih H)
def b_X1_addThing_5 (l0 : Nat) (l1 : Int32) (l2 : Int32) : Nat → Int32 → ci_H → Option (ci_H)
  | 0, _, _ => none
  | n + 1, l4, h => if l4 ≤ 0 then (some h) else (b_X1_addThing_13 (fun x0 x1 => b_X1_addThing_5 l0 l1 l2 n x0 x1) l0 l1 l2 l4 bigN l2 h)
set_option maxHeartbeats 4000000 in
set_option maxRecDepth 20000 in
theorem eb_X1_addThing_5 {xs : Nat → Int32} {N d : Nat} {nx : ci_N} {l0 : Nat} {l1 : Int32} {l2 : Int32} : ∀ (n : Nat) (l4 : Int32) (h : ci_H) (r : ci_H), b_X1_addThing_5 l0 l1 l2 n l4 h = some r → Ev xs N d 9 5 [.ref l0, .int l1, .int l2, ci_junk, .int l4, ci_junk, ci_junk, ci_junk] [] h nx (oV r nx) := by
  intro n
  induction n with
  | zero => intro l4 h r H; unfold b_X1_addThing_5 at H; cases H
  | succ n ih =>
    intro l4 h r H
    unfold b_X1_addThing_5 at H
    refine ev_go hc_X1_addThing (k := 1) (pc' := 7) (L' := [.ref l0, .int l1, .int l2, ci_junk, .int l4, ci_junk, ci_junk, ci_junk]) (S' := [.int l4]) rfl ?_
    by_cases c1 : l4 ≤ 0
    · rw [if_pos c1] at H
      refine ev_bt hc_X1_addThing (fe_X1_addThing (pc := 7) rfl) rfl c1 ?_
      obtain rfl := Option.some.inj H
      exact ev_8 hc_X1_addThing (fe_X1_addThing (pc := 101) rfl) rfl
    · rw [if_neg c1] at H
      refine ev_bf hc_X1_addThing (fe_X1_addThing (pc := 7) rfl) rfl c1 ?_
      refine ev_go hc_X1_addThing (k := 2) (pc' := 13) (L' := [.ref l0, .int l1, .int l2, ci_junk, .int l4, .int l2, ci_junk, ci_junk]) (S' := []) rfl ?_
      exact Ev.weak (ci_le_c (Or.inr rfl) (ci_le_c (Or.inr rfl) (ci_le_c (Or.inr rfl) (ci_le_c (Or.inl rfl) (ci_le_c (Or.inr rfl) (ci_le_c (Or.inr rfl) (ci_le_c (Or.inl rfl) (ci_le_c (Or.inl rfl) (ci_le_n))))))))) (eb_X1_addThing_13 ih bigN _ _ _ H)
def F_X1_addThing (a0 : Nat) (a1 : Int32) (a2 : Int32) (a3 : Int32) (h : ci_H) : Option (ci_H) := if kO h a0 = some 1 then (b_X1_addThing_5 a0 a1 a2 bigN (a3 - 1) h) else none
theorem K_X1_addThing {a0 : Nat} {a1 : Int32} {a2 : Int32} {a3 : Int32} {h : ci_H} {r : ci_H} (H : F_X1_addThing a0 a1 a2 a3 h = some r) : kO h a0 = some 1 := by
  unfold F_X1_addThing at H
  by_cases c : kO h a0 = some 1
  · exact c
  · rw [if_neg c] at H; cases H
set_option maxHeartbeats 4000000 in
set_option maxRecDepth 20000 in
theorem E_X1_addThing {xs : Nat → Int32} {N d : Nat} {nx : ci_N} {a0 : Nat} {a1 : Int32} {a2 : Int32} {a3 : Int32} {h : ci_H} {r : ci_H} (H : F_X1_addThing a0 a1 a2 a3 h = some r) (hd : 0 ≤ d) : Ev xs N d 9 0 (ci_entry [.ref a0, .int a1, .int a2, .int a3] 8) [] h nx (oV r nx) := by
  unfold F_X1_addThing at H
  by_cases ck : kO h a0 = some 1
  · rw [if_pos ck] at H
    show Ev xs N d 9 0 [.ref a0, .int a1, .int a2, .int a3, ci_junk, ci_junk, ci_junk, ci_junk] [] h nx _
    refine ev_go hc_X1_addThing (k := 4) (pc' := 5) (L' := [.ref a0, .int a1, .int a2, .int a3, .int (a3 - 1), ci_junk, ci_junk, ci_junk]) (S' := []) rfl ?_
    exact Ev.weak (ci_le_c (Or.inr rfl) (ci_le_c (Or.inr rfl) (ci_le_c (Or.inr rfl) (ci_le_c (Or.inl rfl) (ci_le_c (Or.inr rfl) (ci_le_c (Or.inl rfl) (ci_le_c (Or.inl rfl) (ci_le_c (Or.inl rfl) (ci_le_n))))))))) (eb_X1_addThing_5 bigN _ _ _ H)
  · rw [if_neg ck] at H; cases H
theorem hc_X1_bestFrom : ci_code (ci_Ms 8) = k_X1_bestFrom := rfl
theorem fe_X1_bestFrom {pc : Nat} {w : Option ci_I} (h : (k_X1_bestFrom)[pc]? = some w) : (k_X1_bestFrom)[pc]? = some w := h
def b_X1_bestFrom_71 (r_42 : Int32 → ci_H → Option (Int32 × ci_H)) (l0 : Nat) (l1 : Int32) (l2 : Int32) (l3 : Int32) (l4 : Int32)  (h : ci_H) : Option (Int32 × ci_H) := r_42 (l4 + 1) h
set_option maxHeartbeats 4000000 in
set_option maxRecDepth 20000 in
theorem eb_X1_bestFrom_71 {xs : Nat → Int32} {N d : Nat} {nx : ci_N} {r_42 : Int32 → ci_H → Option (Int32 × ci_H)} {l0 : Nat} {l1 : Int32} {l2 : Int32} {l3 : Int32} {l4 : Int32} (hd : 0 ≤ d) (h_42 : ∀ (l4 : Int32) (h : ci_H) (r : Int32 × ci_H), r_42 l4 h = some r → Ev xs N (d + 1) 8 42 [.ref l0, .int l1, .int l2, .int l3, .int l4] [] h nx (oI r nx)) {h : ci_H} {r : Int32 × ci_H} (H : b_X1_bestFrom_71 r_42 l0 l1 l2 l3 l4 h = some r) : Ev xs N (d + 1) 8 71 [.ref l0, .int l1, .int l2, .int l3, .int l4] [] h nx (oI r nx) := by
  unfold b_X1_bestFrom_71 at H
  refine ev_go hc_X1_bestFrom (k := 2) (pc' := 42) (L' := [.ref l0, .int l1, .int l2, .int l3, .int (l4 + 1)]) (S' := []) rfl ?_
  exact Ev.weak (ci_le_c (Or.inr rfl) (ci_le_c (Or.inr rfl) (ci_le_c (Or.inr rfl) (ci_le_c (Or.inr rfl) (ci_le_c (Or.inr rfl) (ci_le_n)))))) (h_42 _ _ _ H)
def b_X1_bestFrom_42 (l0 : Nat) (l1 : Int32) (l2 : Int32) (l3 : Int32) : Nat → Int32 → ci_H → Option (Int32 × ci_H)
  | 0, _, _ => none
  | n + 1, l4, h => (gR h l0 1 0).bind fun v1 => (gI h v1 10 6).bind fun v2 => if v2 ≤ l4 then ((gR h l0 1 3).bind fun v4 => (rI h v4 (l3 - 1)).bind fun v5 => some (v5, h)) else (if ((l2 >>> (l4 &&& 31)) &&& 1) = 0 then (b_X1_bestFrom_71 (fun x0 x1 => b_X1_bestFrom_42 l0 l1 l2 l3 n x0 x1) l0 l1 l2 l3 l4 h) else ((F_X1_addThing l0 l4 l1 l3 h).bind fun h7 => b_X1_bestFrom_71 (fun x0 x1 => b_X1_bestFrom_42 l0 l1 l2 l3 n x0 x1) l0 l1 l2 l3 l4 h7))
set_option maxHeartbeats 4000000 in
set_option maxRecDepth 20000 in
theorem eb_X1_bestFrom_42 {xs : Nat → Int32} {N d : Nat} {nx : ci_N} {l0 : Nat} {l1 : Int32} {l2 : Int32} {l3 : Int32} (hd : 0 ≤ d) : ∀ (n : Nat) (l4 : Int32) (h : ci_H) (r : Int32 × ci_H), b_X1_bestFrom_42 l0 l1 l2 l3 n l4 h = some r → Ev xs N (d + 1) 8 42 [.ref l0, .int l1, .int l2, .int l3, .int l4] [] h nx (oI r nx) := by
  intro n
  induction n with
  | zero => intro l4 h r H; unfold b_X1_bestFrom_42 at H; cases H
  | succ n ih =>
    intro l4 h r H
    unfold b_X1_bestFrom_42 at H
    refine ev_go hc_X1_bestFrom (k := 2) (pc' := 45) (L' := [.ref l0, .int l1, .int l2, .int l3, .int l4]) (S' := [.ref l0, .int l4]) rfl ?_
    obtain ⟨v1, ev1, H⟩ := Option.bind_eq_some_iff.mp H
    refine ev_4 hc_X1_bestFrom (fe_X1_bestFrom (pc := 45) rfl) (gR_gf ev1) ?_
    obtain ⟨v2, ev2, H⟩ := Option.bind_eq_some_iff.mp H
    refine ev_4 hc_X1_bestFrom (fe_X1_bestFrom (pc := 48) rfl) (gI_gf ev2) ?_
    by_cases c3 : v2 ≤ l4
    · rw [if_pos c3] at H
      refine ev_bt hc_X1_bestFrom (fe_X1_bestFrom (pc := 51) rfl) rfl c3 ?_
      refine ev_go hc_X1_bestFrom (k := 1) (pc' := 78) (L' := [.ref l0, .int l1, .int l2, .int l3, .int l4]) (S' := [.ref l0]) rfl ?_
      obtain ⟨v4, ev4, H⟩ := Option.bind_eq_some_iff.mp H
      refine ev_4 hc_X1_bestFrom (fe_X1_bestFrom (pc := 78) rfl) (gR_gf ev4) ?_
      refine ev_go hc_X1_bestFrom (k := 3) (pc' := 84) (L' := [.ref l0, .int l1, .int l2, .int l3, .int l4]) (S' := [.int (l3 - 1), .ref v4]) rfl ?_
      obtain ⟨v5, ev5, H⟩ := Option.bind_eq_some_iff.mp H
      refine ev_4 hc_X1_bestFrom (fe_X1_bestFrom (pc := 84) rfl) (rI_al ev5) ?_
      obtain rfl := Option.some.inj H
      exact ev_8 hc_X1_bestFrom (fe_X1_bestFrom (pc := 85) rfl) rfl
    · rw [if_neg c3] at H
      refine ev_bf hc_X1_bestFrom (fe_X1_bestFrom (pc := 51) rfl) rfl c3 ?_
      refine ev_go hc_X1_bestFrom (k := 5) (pc' := 60) (L' := [.ref l0, .int l1, .int l2, .int l3, .int l4]) (S' := [.int ((l2 >>> (l4 &&& 31)) &&& 1)]) rfl ?_
      by_cases c6 : ((l2 >>> (l4 &&& 31)) &&& 1) = 0
      · rw [if_pos c6] at H
        refine ev_bt hc_X1_bestFrom (fe_X1_bestFrom (pc := 60) rfl) rfl c6 ?_
        exact Ev.weak (ci_le_c (Or.inr rfl) (ci_le_c (Or.inr rfl) (ci_le_c (Or.inr rfl) (ci_le_c (Or.inr rfl) (ci_le_c (Or.inr rfl) (ci_le_n)))))) (eb_X1_bestFrom_71 hd ih H)
      · rw [if_neg c6] at H
        refine ev_bf hc_X1_bestFrom (fe_X1_bestFrom (pc := 60) rfl) rfl c6 ?_
        refine ev_go hc_X1_bestFrom (k := 4) (pc' := 68) (L' := [.ref l0, .int l1, .int l2, .int l3, .int l4]) (S' := [.int l3, .int l1, .int l4, .ref l0]) rfl ?_
        obtain ⟨h7, eh7, H⟩ := Option.bind_eq_some_iff.mp H
        refine ev_call (vs := [.ref l0, .int l4, .int l1, .int l3]) (rest := []) (q := q_X1_addThing) hc_X1_bestFrom (Or.inr rfl) (fe_X1_bestFrom (pc := 68) rfl) ms_9 rfl rfl (Nat.le_of_ble_eq_true rfl) (kO_recv (K_X1_addThing eh7)) (E_X1_addThing eh7 (by omega)) rfl ?_
        show Ev xs N (d + 1) 8 71 [.ref l0, .int l1, .int l2, .int l3, .int l4] [] h7 nx _
        exact Ev.weak (ci_le_c (Or.inr rfl) (ci_le_c (Or.inr rfl) (ci_le_c (Or.inr rfl) (ci_le_c (Or.inr rfl) (ci_le_c (Or.inr rfl) (ci_le_n)))))) (eb_X1_bestFrom_71 hd ih H)
def b_X1_bestFrom_19 (l0 : Nat) (l1 : Int32) (l2 : Int32) (l3 : Int32) : Nat → Int32 → ci_H → Option (Int32 × ci_H)
  | 0, _, _ => none
  | n + 1, l4, h => if l3 ≤ l4 then (b_X1_bestFrom_42 l0 l1 l2 l3 bigN 0 h) else ((gR h l0 1 3).bind fun v2 => (wI h v2 l4 0).bind fun h3 => b_X1_bestFrom_19 l0 l1 l2 l3 n (l4 + 1) h3)
set_option maxHeartbeats 4000000 in
set_option maxRecDepth 20000 in
theorem eb_X1_bestFrom_19 {xs : Nat → Int32} {N d : Nat} {nx : ci_N} {l0 : Nat} {l1 : Int32} {l2 : Int32} {l3 : Int32} (hd : 0 ≤ d) : ∀ (n : Nat) (l4 : Int32) (h : ci_H) (r : Int32 × ci_H), b_X1_bestFrom_19 l0 l1 l2 l3 n l4 h = some r → Ev xs N (d + 1) 8 19 [.ref l0, .int l1, .int l2, .int l3, .int l4] [] h nx (oI r nx) := by
  intro n
  induction n with
  | zero => intro l4 h r H; unfold b_X1_bestFrom_19 at H; cases H
  | succ n ih =>
    intro l4 h r H
    unfold b_X1_bestFrom_19 at H
    refine ev_go hc_X1_bestFrom (k := 2) (pc' := 22) (L' := [.ref l0, .int l1, .int l2, .int l3, .int l4]) (S' := [.int l3, .int l4]) rfl ?_
    by_cases c1 : l3 ≤ l4
    · rw [if_pos c1] at H
      refine ev_bt hc_X1_bestFrom (fe_X1_bestFrom (pc := 22) rfl) rfl c1 ?_
      refine ev_go hc_X1_bestFrom (k := 2) (pc' := 42) (L' := [.ref l0, .int l1, .int l2, .int l3, .int 0]) (S' := []) rfl ?_
      exact Ev.weak (ci_le_c (Or.inr rfl) (ci_le_c (Or.inr rfl) (ci_le_c (Or.inr rfl) (ci_le_c (Or.inr rfl) (ci_le_c (Or.inr rfl) (ci_le_n)))))) (eb_X1_bestFrom_42 hd bigN _ _ _ H)
    · rw [if_neg c1] at H
      refine ev_bf hc_X1_bestFrom (fe_X1_bestFrom (pc := 22) rfl) rfl c1 ?_
      refine ev_go hc_X1_bestFrom (k := 1) (pc' := 26) (L' := [.ref l0, .int l1, .int l2, .int l3, .int l4]) (S' := [.ref l0]) rfl ?_
      obtain ⟨v2, ev2, H⟩ := Option.bind_eq_some_iff.mp H
      refine ev_4 hc_X1_bestFrom (fe_X1_bestFrom (pc := 26) rfl) (gR_gf ev2) ?_
      refine ev_go hc_X1_bestFrom (k := 2) (pc' := 32) (L' := [.ref l0, .int l1, .int l2, .int l3, .int l4]) (S' := [.int 0, .int l4, .ref v2]) rfl ?_
      obtain ⟨h3, eh3, H⟩ := Option.bind_eq_some_iff.mp H
      refine ev_5 hc_X1_bestFrom (fe_X1_bestFrom (pc := 32) rfl) (wI_as eh3) ?_
      refine ev_go hc_X1_bestFrom (k := 2) (pc' := 19) (L' := [.ref l0, .int l1, .int l2, .int l3, .int (l4 + 1)]) (S' := []) rfl ?_
      exact Ev.weak (ci_le_c (Or.inr rfl) (ci_le_c (Or.inr rfl) (ci_le_c (Or.inr rfl) (ci_le_c (Or.inr rfl) (ci_le_c (Or.inr rfl) (ci_le_n)))))) (ih _ _ _ H)
def F_X1_bestFrom (a0 : Nat) (a1 : Int32) (a2 : Int32) (h : ci_H) : Option (Int32 × ci_H) := if kO h a0 = some 1 then ((gR h a0 1 0).bind fun v1 => (gI h v1 10 5).bind fun v2 => b_X1_bestFrom_19 a0 a1 a2 ((1 : Int32) <<< ((if 0 < (v2 - a1) then v2 - a1 else 0) &&& 31)) bigN 0 h) else none
theorem K_X1_bestFrom {a0 : Nat} {a1 : Int32} {a2 : Int32} {h : ci_H} {r : Int32 × ci_H} (H : F_X1_bestFrom a0 a1 a2 h = some r) : kO h a0 = some 1 := by
  unfold F_X1_bestFrom at H
  by_cases c : kO h a0 = some 1
  · exact c
  · rw [if_neg c] at H; cases H
set_option maxHeartbeats 4000000 in
set_option maxRecDepth 20000 in
theorem E_X1_bestFrom {xs : Nat → Int32} {N d : Nat} {nx : ci_N} {a0 : Nat} {a1 : Int32} {a2 : Int32} {h : ci_H} {r : Int32 × ci_H} (H : F_X1_bestFrom a0 a1 a2 h = some r) (hd : 1 ≤ d) : Ev xs N d 8 0 (ci_entry [.ref a0, .int a1, .int a2] 5) [] h nx (oI r nx) := by
  obtain ⟨d, rfl⟩ : ∃ d2, d = d2 + 1 := ⟨d - 1, by omega⟩
  have hd : 0 ≤ d := by omega
  unfold F_X1_bestFrom at H
  by_cases ck : kO h a0 = some 1
  · rw [if_pos ck] at H
    show Ev xs N (d + 1) 8 0 [.ref a0, .int a1, .int a2, ci_junk, ci_junk] [] h nx _
    refine ev_go hc_X1_bestFrom (k := 3) (pc' := 3) (L' := [.ref a0, .int a1, .int a2, ci_junk, ci_junk]) (S' := [.ref a0, .int 0, .int 1]) rfl ?_
    obtain ⟨v1, ev1, H⟩ := Option.bind_eq_some_iff.mp H
    refine ev_4 hc_X1_bestFrom (fe_X1_bestFrom (pc := 3) rfl) (gR_gf ev1) ?_
    obtain ⟨v2, ev2, H⟩ := Option.bind_eq_some_iff.mp H
    refine ev_4 hc_X1_bestFrom (fe_X1_bestFrom (pc := 6) rfl) (gI_gf ev2) ?_
    refine ev_go hc_X1_bestFrom (k := 2) (pc' := 11) (L' := [.ref a0, .int a1, .int a2, ci_junk, ci_junk]) (S' := [.int (v2 - a1), .int 0, .int 1]) rfl ?_
    refine ev_15 hc_X1_bestFrom (fe_X1_bestFrom (pc := 11) rfl) (S' := [.int (if 0 < (v2 - a1) then v2 - a1 else 0), .int 1]) rfl ?_
    refine ev_go hc_X1_bestFrom (k := 4) (pc' := 19) (L' := [.ref a0, .int a1, .int a2, .int ((1 : Int32) <<< ((if 0 < (v2 - a1) then v2 - a1 else 0) &&& 31)), .int 0]) (S' := []) rfl ?_
    exact Ev.weak (ci_le_c (Or.inr rfl) (ci_le_c (Or.inr rfl) (ci_le_c (Or.inr rfl) (ci_le_c (Or.inr rfl) (ci_le_c (Or.inr rfl) (ci_le_n)))))) (eb_X1_bestFrom_19 hd bigN _ _ _ H)
  · rw [if_neg ck] at H; cases H
theorem hc_X1_leastChoice : ci_code (ci_Ms 7) = k_X1_leastChoice := rfl
theorem fe_X1_leastChoice {pc : Nat} {w : Option ci_I} (h : (k_X1_leastChoice)[pc]? = some w) : (k_X1_leastChoice)[pc]? = some w := h
def b_X1_leastChoice_81 (r_17 : Int32 → ci_H → Option (Int32 × ci_H)) (l0 : Nat) (l1 : Int32) (l2 : Int32) (l3 : Int32) (l4 : Int32)  (h : ci_H) : Option (Int32 × ci_H) := r_17 (l4 + 1) h
set_option maxHeartbeats 4000000 in
set_option maxRecDepth 20000 in
theorem eb_X1_leastChoice_81 {xs : Nat → Int32} {N d : Nat} {nx : ci_N} {r_17 : Int32 → ci_H → Option (Int32 × ci_H)} {l0 : Nat} {l1 : Int32} {l2 : Int32} {l3 : Int32} {l4 : Int32} (hd : 1 ≤ d) (h_17 : ∀ (l4 : Int32) (h : ci_H) (r : Int32 × ci_H), r_17 l4 h = some r → Ev xs N (d + 1) 7 17 [.ref l0, .int l1, .int l2, .int l3, .int l4, ci_junk, ci_junk] [] h nx (oI r nx)) {h : ci_H} {r : Int32 × ci_H} (H : b_X1_leastChoice_81 r_17 l0 l1 l2 l3 l4 h = some r) : Ev xs N (d + 1) 7 81 [.ref l0, .int l1, .int l2, .int l3, .int l4, ci_junk, ci_junk] [] h nx (oI r nx) := by
  unfold b_X1_leastChoice_81 at H
  refine ev_go hc_X1_leastChoice (k := 2) (pc' := 17) (L' := [.ref l0, .int l1, .int l2, .int l3, .int (l4 + 1), ci_junk, ci_junk]) (S' := []) rfl ?_
  exact Ev.weak (ci_le_c (Or.inr rfl) (ci_le_c (Or.inr rfl) (ci_le_c (Or.inr rfl) (ci_le_c (Or.inr rfl) (ci_le_c (Or.inr rfl) (ci_le_c (Or.inl rfl) (ci_le_c (Or.inl rfl) (ci_le_n)))))))) (h_17 _ _ _ H)
def b_X1_leastChoice_17 (l0 : Nat) (l1 : Int32) (l2 : Int32) (l3 : Int32) : Nat → Int32 → ci_H → Option (Int32 × ci_H)
  | 0, _, _ => none
  | n + 1, l4, h => (gR h l0 1 0).bind fun v1 => (gI h v1 10 6).bind fun v2 => if v2 ≤ l4 then (some ((-1), h)) else ((gR h l0 1 2).bind fun v4 => (rR h v4 l1).bind fun v5 => (rI h v5 l4).bind fun v6 => if (l2 &&& ((1 : Int32) <<< (l4 &&& 31))) = 0 then (b_X1_leastChoice_81 (fun x0 x1 => b_X1_leastChoice_17 l0 l1 l2 l3 n x0 x1) l0 l1 l2 l3 l4 h) else (if v6 < 0 then (b_X1_leastChoice_81 (fun x0 x1 => b_X1_leastChoice_17 l0 l1 l2 l3 n x0 x1) l0 l1 l2 l3 l4 h) else ((F_X1_bestFrom l0 (l1 + 1) (l2 &&& (((1 : Int32) <<< (l4 &&& 31)) ^^^ ((-1)))) h).bind fun q9 => if (v6 + q9.1) = l3 then (some (l4, q9.2)) else (b_X1_leastChoice_81 (fun x0 x1 => b_X1_leastChoice_17 l0 l1 l2 l3 n x0 x1) l0 l1 l2 l3 l4 q9.2))))
set_option maxHeartbeats 4000000 in
set_option maxRecDepth 20000 in
theorem eb_X1_leastChoice_17 {xs : Nat → Int32} {N d : Nat} {nx : ci_N} {l0 : Nat} {l1 : Int32} {l2 : Int32} {l3 : Int32} (hd : 1 ≤ d) : ∀ (n : Nat) (l4 : Int32) (h : ci_H) (r : Int32 × ci_H), b_X1_leastChoice_17 l0 l1 l2 l3 n l4 h = some r → Ev xs N (d + 1) 7 17 [.ref l0, .int l1, .int l2, .int l3, .int l4, ci_junk, ci_junk] [] h nx (oI r nx) := by
  intro n
  induction n with
  | zero => intro l4 h r H; unfold b_X1_leastChoice_17 at H; cases H
  | succ n ih =>
    intro l4 h r H
    unfold b_X1_leastChoice_17 at H
    refine ev_go hc_X1_leastChoice (k := 2) (pc' := 20) (L' := [.ref l0, .int l1, .int l2, .int l3, .int l4, ci_junk, ci_junk]) (S' := [.ref l0, .int l4]) rfl ?_
    obtain ⟨v1, ev1, H⟩ := Option.bind_eq_some_iff.mp H
    refine ev_4 hc_X1_leastChoice (fe_X1_leastChoice (pc := 20) rfl) (gR_gf ev1) ?_
    obtain ⟨v2, ev2, H⟩ := Option.bind_eq_some_iff.mp H
    refine ev_4 hc_X1_leastChoice (fe_X1_leastChoice (pc := 23) rfl) (gI_gf ev2) ?_
    by_cases c3 : v2 ≤ l4
    · rw [if_pos c3] at H
      refine ev_bt hc_X1_leastChoice (fe_X1_leastChoice (pc := 26) rfl) rfl c3 ?_
      refine ev_go hc_X1_leastChoice (k := 1) (pc' := 88) (L' := [.ref l0, .int l1, .int l2, .int l3, .int l4, ci_junk, ci_junk]) (S' := [.int ((-1))]) rfl ?_
      obtain rfl := Option.some.inj H
      exact ev_8 hc_X1_leastChoice (fe_X1_leastChoice (pc := 88) rfl) rfl
    · rw [if_neg c3] at H
      refine ev_bf hc_X1_leastChoice (fe_X1_leastChoice (pc := 26) rfl) rfl c3 ?_
      refine ev_go hc_X1_leastChoice (k := 5) (pc' := 36) (L' := [.ref l0, .int l1, .int l2, .int l3, .int l4, .int ((1 : Int32) <<< (l4 &&& 31)), ci_junk]) (S' := [.ref l0]) rfl ?_
      obtain ⟨v4, ev4, H⟩ := Option.bind_eq_some_iff.mp H
      refine ev_4 hc_X1_leastChoice (fe_X1_leastChoice (pc := 36) rfl) (gR_gf ev4) ?_
      refine ev_go hc_X1_leastChoice (k := 1) (pc' := 40) (L' := [.ref l0, .int l1, .int l2, .int l3, .int l4, .int ((1 : Int32) <<< (l4 &&& 31)), ci_junk]) (S' := [.int l1, .ref v4]) rfl ?_
      obtain ⟨v5, ev5, H⟩ := Option.bind_eq_some_iff.mp H
      refine ev_4 hc_X1_leastChoice (fe_X1_leastChoice (pc := 40) rfl) (rR_al ev5) ?_
      refine ev_go hc_X1_leastChoice (k := 1) (pc' := 43) (L' := [.ref l0, .int l1, .int l2, .int l3, .int l4, .int ((1 : Int32) <<< (l4 &&& 31)), ci_junk]) (S' := [.int l4, .ref v5]) rfl ?_
      obtain ⟨v6, ev6, H⟩ := Option.bind_eq_some_iff.mp H
      refine ev_4 hc_X1_leastChoice (fe_X1_leastChoice (pc := 43) rfl) (rI_al ev6) ?_
      refine ev_go hc_X1_leastChoice (k := 4) (pc' := 50) (L' := [.ref l0, .int l1, .int l2, .int l3, .int l4, .int ((1 : Int32) <<< (l4 &&& 31)), .int v6]) (S' := [.int (l2 &&& ((1 : Int32) <<< (l4 &&& 31)))]) rfl ?_
      by_cases c7 : (l2 &&& ((1 : Int32) <<< (l4 &&& 31))) = 0
      · rw [if_pos c7] at H
        refine ev_bt hc_X1_leastChoice (fe_X1_leastChoice (pc := 50) rfl) rfl c7 ?_
        exact Ev.weak (ci_le_c (Or.inr rfl) (ci_le_c (Or.inr rfl) (ci_le_c (Or.inr rfl) (ci_le_c (Or.inr rfl) (ci_le_c (Or.inr rfl) (ci_le_c (Or.inl rfl) (ci_le_c (Or.inl rfl) (ci_le_n)))))))) (eb_X1_leastChoice_81 hd ih H)
      · rw [if_neg c7] at H
        refine ev_bf hc_X1_leastChoice (fe_X1_leastChoice (pc := 50) rfl) rfl c7 ?_
        refine ev_go hc_X1_leastChoice (k := 1) (pc' := 55) (L' := [.ref l0, .int l1, .int l2, .int l3, .int l4, .int ((1 : Int32) <<< (l4 &&& 31)), .int v6]) (S' := [.int v6]) rfl ?_
        by_cases c8 : v6 < 0
        · rw [if_pos c8] at H
          refine ev_bt hc_X1_leastChoice (fe_X1_leastChoice (pc := 55) rfl) rfl c8 ?_
          exact Ev.weak (ci_le_c (Or.inr rfl) (ci_le_c (Or.inr rfl) (ci_le_c (Or.inr rfl) (ci_le_c (Or.inr rfl) (ci_le_c (Or.inr rfl) (ci_le_c (Or.inl rfl) (ci_le_c (Or.inl rfl) (ci_le_n)))))))) (eb_X1_leastChoice_81 hd ih H)
        · rw [if_neg c8] at H
          refine ev_bf hc_X1_leastChoice (fe_X1_leastChoice (pc := 55) rfl) rfl c8 ?_
          refine ev_go hc_X1_leastChoice (k := 10) (pc' := 70) (L' := [.ref l0, .int l1, .int l2, .int l3, .int l4, .int ((1 : Int32) <<< (l4 &&& 31)), .int v6]) (S' := [.int (l2 &&& (((1 : Int32) <<< (l4 &&& 31)) ^^^ ((-1)))), .int (l1 + 1), .ref l0, .int v6]) rfl ?_
          obtain ⟨q9, eq9, H⟩ := Option.bind_eq_some_iff.mp H
          refine ev_call (vs := [.ref l0, .int (l1 + 1), .int (l2 &&& (((1 : Int32) <<< (l4 &&& 31)) ^^^ ((-1))))]) (rest := [.int v6]) (q := q_X1_bestFrom) hc_X1_leastChoice (Or.inr rfl) (fe_X1_leastChoice (pc := 70) rfl) ms_8 rfl rfl (Nat.le_of_ble_eq_true rfl) (kO_recv (K_X1_bestFrom eq9)) (E_X1_bestFrom eq9 (by omega)) rfl ?_
          show Ev xs N (d + 1) 7 73 [.ref l0, .int l1, .int l2, .int l3, .int l4, .int ((1 : Int32) <<< (l4 &&& 31)), .int v6] [.int q9.1, .int v6] q9.2 nx _
          refine ev_go hc_X1_leastChoice (k := 2) (pc' := 75) (L' := [.ref l0, .int l1, .int l2, .int l3, .int l4, .int ((1 : Int32) <<< (l4 &&& 31)), .int v6]) (S' := [.int l3, .int (v6 + q9.1)]) rfl ?_
          by_cases c10 : (v6 + q9.1) = l3
          · rw [if_pos c10] at H
            refine ev_bt hc_X1_leastChoice (fe_X1_leastChoice (pc := 75) rfl) rfl c10 ?_
            refine ev_go hc_X1_leastChoice (k := 1) (pc' := 80) (L' := [.ref l0, .int l1, .int l2, .int l3, .int l4, .int ((1 : Int32) <<< (l4 &&& 31)), .int v6]) (S' := [.int l4]) rfl ?_
            obtain rfl := Option.some.inj H
            exact ev_8 hc_X1_leastChoice (fe_X1_leastChoice (pc := 80) rfl) rfl
          · rw [if_neg c10] at H
            refine ev_bf hc_X1_leastChoice (fe_X1_leastChoice (pc := 75) rfl) rfl c10 ?_
            exact Ev.weak (ci_le_c (Or.inr rfl) (ci_le_c (Or.inr rfl) (ci_le_c (Or.inr rfl) (ci_le_c (Or.inr rfl) (ci_le_c (Or.inr rfl) (ci_le_c (Or.inl rfl) (ci_le_c (Or.inl rfl) (ci_le_n)))))))) (eb_X1_leastChoice_81 hd ih H)
def F_X1_leastChoice (a0 : Nat) (a1 : Int32) (a2 : Int32) (a3 : Int32) (h : ci_H) : Option (Int32 × ci_H) := if kO h a0 = some 1 then ((F_X1_bestFrom a0 (a1 + 1) a2 h).bind fun q1 => if q1.1 = a3 then (some ((-1), q1.2)) else (b_X1_leastChoice_17 a0 a1 a2 a3 bigN 0 q1.2)) else none
theorem K_X1_leastChoice {a0 : Nat} {a1 : Int32} {a2 : Int32} {a3 : Int32} {h : ci_H} {r : Int32 × ci_H} (H : F_X1_leastChoice a0 a1 a2 a3 h = some r) : kO h a0 = some 1 := by
  unfold F_X1_leastChoice at H
  by_cases c : kO h a0 = some 1
  · exact c
  · rw [if_neg c] at H; cases H
set_option maxHeartbeats 4000000 in
set_option maxRecDepth 20000 in
theorem E_X1_leastChoice {xs : Nat → Int32} {N d : Nat} {nx : ci_N} {a0 : Nat} {a1 : Int32} {a2 : Int32} {a3 : Int32} {h : ci_H} {r : Int32 × ci_H} (H : F_X1_leastChoice a0 a1 a2 a3 h = some r) (hd : 2 ≤ d) : Ev xs N d 7 0 (ci_entry [.ref a0, .int a1, .int a2, .int a3] 7) [] h nx (oI r nx) := by
  obtain ⟨d, rfl⟩ : ∃ d2, d = d2 + 1 := ⟨d - 1, by omega⟩
  have hd : 1 ≤ d := by omega
  unfold F_X1_leastChoice at H
  by_cases ck : kO h a0 = some 1
  · rw [if_pos ck] at H
    show Ev xs N (d + 1) 7 0 [.ref a0, .int a1, .int a2, .int a3, ci_junk, ci_junk, ci_junk] [] h nx _
    refine ev_go hc_X1_leastChoice (k := 5) (pc' := 5) (L' := [.ref a0, .int a1, .int a2, .int a3, ci_junk, ci_junk, ci_junk]) (S' := [.int a2, .int (a1 + 1), .ref a0]) rfl ?_
    obtain ⟨q1, eq1, H⟩ := Option.bind_eq_some_iff.mp H
    refine ev_call (vs := [.ref a0, .int (a1 + 1), .int a2]) (rest := []) (q := q_X1_bestFrom) hc_X1_leastChoice (Or.inr rfl) (fe_X1_leastChoice (pc := 5) rfl) ms_8 rfl rfl (Nat.le_of_ble_eq_true rfl) (kO_recv (K_X1_bestFrom eq1)) (E_X1_bestFrom eq1 (by omega)) rfl ?_
    show Ev xs N (d + 1) 7 8 [.ref a0, .int a1, .int a2, .int a3, ci_junk, ci_junk, ci_junk] [.int q1.1] q1.2 nx _
    refine ev_go hc_X1_leastChoice (k := 1) (pc' := 9) (L' := [.ref a0, .int a1, .int a2, .int a3, ci_junk, ci_junk, ci_junk]) (S' := [.int a3, .int q1.1]) rfl ?_
    by_cases c2 : q1.1 = a3
    · rw [if_pos c2] at H
      refine ev_bt hc_X1_leastChoice (fe_X1_leastChoice (pc := 9) rfl) rfl c2 ?_
      refine ev_go hc_X1_leastChoice (k := 1) (pc' := 13) (L' := [.ref a0, .int a1, .int a2, .int a3, ci_junk, ci_junk, ci_junk]) (S' := [.int ((-1))]) rfl ?_
      obtain rfl := Option.some.inj H
      exact ev_8 hc_X1_leastChoice (fe_X1_leastChoice (pc := 13) rfl) rfl
    · rw [if_neg c2] at H
      refine ev_bf hc_X1_leastChoice (fe_X1_leastChoice (pc := 9) rfl) rfl c2 ?_
      refine ev_go hc_X1_leastChoice (k := 2) (pc' := 17) (L' := [.ref a0, .int a1, .int a2, .int a3, .int 0, ci_junk, ci_junk]) (S' := []) rfl ?_
      exact Ev.weak (ci_le_c (Or.inr rfl) (ci_le_c (Or.inr rfl) (ci_le_c (Or.inr rfl) (ci_le_c (Or.inr rfl) (ci_le_c (Or.inr rfl) (ci_le_c (Or.inl rfl) (ci_le_c (Or.inl rfl) (ci_le_n)))))))) (eb_X1_leastChoice_17 hd bigN _ _ _ H)
  · rw [if_neg ck] at H; cases H
theorem hc_X1_mostWorth : ci_code (ci_Ms 5) = k_X1_mostWorth := rfl
theorem fe_X1_mostWorth {pc : Nat} {w : Option ci_I} (h : (k_X1_mostWorth)[pc]? = some w) : (k_X1_mostWorth)[pc]? = some w := h
def b_X1_mostWorth_103 (r_45 : Int32 → Int32 → Int32 → ci_H → Option (Int32 × ci_H)) (l0 : Nat) (l1 : Int32) (l2 : Int32) (l3 : Int32) (l4 : Int32)  (h : ci_H) : Option (Int32 × ci_H) := r_45 l1 l3 (l4 + 1) h
set_option maxHeartbeats 4000000 in
set_option maxRecDepth 20000 in
theorem eb_X1_mostWorth_103 {xs : Nat → Int32} {N d : Nat} {nx : ci_N} {r_45 : Int32 → Int32 → Int32 → ci_H → Option (Int32 × ci_H)} {l0 : Nat} {l1 : Int32} {l2 : Int32} {l3 : Int32} {l4 : Int32} (hd : 4 ≤ d) (h_45 : ∀ (l1 : Int32) (l3 : Int32) (l4 : Int32) (h : ci_H) (r : Int32 × ci_H), r_45 l1 l3 l4 h = some r → Ev xs N (d + 1) 5 45 [.ref l0, .int l1, .int l2, .int l3, .int l4, ci_junk] [] h nx (oI r nx)) {h : ci_H} {r : Int32 × ci_H} (H : b_X1_mostWorth_103 r_45 l0 l1 l2 l3 l4 h = some r) : Ev xs N (d + 1) 5 103 [.ref l0, .int l1, .int l2, .int l3, .int l4, ci_junk] [] h nx (oI r nx) := by
  unfold b_X1_mostWorth_103 at H
  refine ev_go hc_X1_mostWorth (k := 2) (pc' := 45) (L' := [.ref l0, .int l1, .int l2, .int l3, .int (l4 + 1), ci_junk]) (S' := []) rfl ?_
  exact Ev.weak (ci_le_c (Or.inr rfl) (ci_le_c (Or.inr rfl) (ci_le_c (Or.inr rfl) (ci_le_c (Or.inr rfl) (ci_le_c (Or.inr rfl) (ci_le_c (Or.inl rfl) (ci_le_n))))))) (h_45 _ _ _ _ _ H)
def b_X1_mostWorth_45 (l0 : Nat) (l2 : Int32) : Nat → Int32 → Int32 → Int32 → ci_H → Option (Int32 × ci_H)
  | 0, _, _, _, _ => none
  | n + 1, l1, l3, l4, h => (gR h l0 1 0).bind fun v1 => (gI h v1 10 5).bind fun v2 => if v2 ≤ l4 then (some (l2, h)) else ((F_X1_leastChoice l0 l4 l1 l3 h).bind fun q4 => (gR q4.2 l0 1 4).bind fun v5 => (wI q4.2 v5 l4 q4.1).bind fun h6 => if q4.1 < 0 then (b_X1_mostWorth_103 (fun x0 x1 x2 x3 => b_X1_mostWorth_45 l0 l2 n x0 x1 x2 x3) l0 l1 l2 l3 l4 h6) else ((gR h6 l0 1 2).bind fun v8 => (rR h6 v8 l4).bind fun v9 => (rI h6 v9 q4.1).bind fun v10 => b_X1_mostWorth_103 (fun x0 x1 x2 x3 => b_X1_mostWorth_45 l0 l2 n x0 x1 x2 x3) l0 (l1 &&& (((1 : Int32) <<< (q4.1 &&& 31)) ^^^ ((-1)))) l2 (l3 - v10) l4 h6))
set_option maxHeartbeats 4000000 in
set_option maxRecDepth 20000 in
theorem eb_X1_mostWorth_45 {xs : Nat → Int32} {N d : Nat} {nx : ci_N} {l0 : Nat} {l2 : Int32} (hd : 4 ≤ d) : ∀ (n : Nat) (l1 : Int32) (l3 : Int32) (l4 : Int32) (h : ci_H) (r : Int32 × ci_H), b_X1_mostWorth_45 l0 l2 n l1 l3 l4 h = some r → Ev xs N (d + 1) 5 45 [.ref l0, .int l1, .int l2, .int l3, .int l4, ci_junk] [] h nx (oI r nx) := by
  intro n
  induction n with
  | zero => intro l1 l3 l4 h r H; unfold b_X1_mostWorth_45 at H; cases H
  | succ n ih =>
    intro l1 l3 l4 h r H
    unfold b_X1_mostWorth_45 at H
    refine ev_go hc_X1_mostWorth (k := 2) (pc' := 48) (L' := [.ref l0, .int l1, .int l2, .int l3, .int l4, ci_junk]) (S' := [.ref l0, .int l4]) rfl ?_
    obtain ⟨v1, ev1, H⟩ := Option.bind_eq_some_iff.mp H
    refine ev_4 hc_X1_mostWorth (fe_X1_mostWorth (pc := 48) rfl) (gR_gf ev1) ?_
    obtain ⟨v2, ev2, H⟩ := Option.bind_eq_some_iff.mp H
    refine ev_4 hc_X1_mostWorth (fe_X1_mostWorth (pc := 51) rfl) (gI_gf ev2) ?_
    by_cases c3 : v2 ≤ l4
    · rw [if_pos c3] at H
      refine ev_bt hc_X1_mostWorth (fe_X1_mostWorth (pc := 54) rfl) rfl c3 ?_
      refine ev_go hc_X1_mostWorth (k := 1) (pc' := 110) (L' := [.ref l0, .int l1, .int l2, .int l3, .int l4, ci_junk]) (S' := [.int l2]) rfl ?_
      obtain rfl := Option.some.inj H
      exact ev_8 hc_X1_mostWorth (fe_X1_mostWorth (pc := 110) rfl) rfl
    · rw [if_neg c3] at H
      refine ev_bf hc_X1_mostWorth (fe_X1_mostWorth (pc := 54) rfl) rfl c3 ?_
      refine ev_go hc_X1_mostWorth (k := 4) (pc' := 62) (L' := [.ref l0, .int l1, .int l2, .int l3, .int l4, ci_junk]) (S' := [.int l3, .int l1, .int l4, .ref l0]) rfl ?_
      obtain ⟨q4, eq4, H⟩ := Option.bind_eq_some_iff.mp H
      refine ev_call (vs := [.ref l0, .int l4, .int l1, .int l3]) (rest := []) (q := q_X1_leastChoice) hc_X1_mostWorth (Or.inr rfl) (fe_X1_mostWorth (pc := 62) rfl) ms_7 rfl rfl (Nat.le_of_ble_eq_true rfl) (kO_recv (K_X1_leastChoice eq4)) (E_X1_leastChoice eq4 (by omega)) rfl ?_
      show Ev xs N (d + 1) 5 65 [.ref l0, .int l1, .int l2, .int l3, .int l4, ci_junk] [.int q4.1] q4.2 nx _
      refine ev_go hc_X1_mostWorth (k := 2) (pc' := 68) (L' := [.ref l0, .int l1, .int l2, .int l3, .int l4, .int q4.1]) (S' := [.ref l0]) rfl ?_
      obtain ⟨v5, ev5, H⟩ := Option.bind_eq_some_iff.mp H
      refine ev_4 hc_X1_mostWorth (fe_X1_mostWorth (pc := 68) rfl) (gR_gf ev5) ?_
      refine ev_go hc_X1_mostWorth (k := 2) (pc' := 75) (L' := [.ref l0, .int l1, .int l2, .int l3, .int l4, .int q4.1]) (S' := [.int q4.1, .int l4, .ref v5]) rfl ?_
      obtain ⟨h6, eh6, H⟩ := Option.bind_eq_some_iff.mp H
      refine ev_5 hc_X1_mostWorth (fe_X1_mostWorth (pc := 75) rfl) (wI_as eh6) ?_
      refine ev_go hc_X1_mostWorth (k := 1) (pc' := 78) (L' := [.ref l0, .int l1, .int l2, .int l3, .int l4, .int q4.1]) (S' := [.int q4.1]) rfl ?_
      by_cases c7 : q4.1 < 0
      · rw [if_pos c7] at H
        refine ev_bt hc_X1_mostWorth (fe_X1_mostWorth (pc := 78) rfl) rfl c7 ?_
        exact Ev.weak (ci_le_c (Or.inr rfl) (ci_le_c (Or.inr rfl) (ci_le_c (Or.inr rfl) (ci_le_c (Or.inr rfl) (ci_le_c (Or.inr rfl) (ci_le_c (Or.inl rfl) (ci_le_n))))))) (eb_X1_mostWorth_103 hd ih H)
      · rw [if_neg c7] at H
        refine ev_bf hc_X1_mostWorth (fe_X1_mostWorth (pc := 78) rfl) rfl c7 ?_
        refine ev_go hc_X1_mostWorth (k := 2) (pc' := 83) (L' := [.ref l0, .int l1, .int l2, .int l3, .int l4, .int q4.1]) (S' := [.ref l0, .int l3]) rfl ?_
        obtain ⟨v8, ev8, H⟩ := Option.bind_eq_some_iff.mp H
        refine ev_4 hc_X1_mostWorth (fe_X1_mostWorth (pc := 83) rfl) (gR_gf ev8) ?_
        refine ev_go hc_X1_mostWorth (k := 1) (pc' := 88) (L' := [.ref l0, .int l1, .int l2, .int l3, .int l4, .int q4.1]) (S' := [.int l4, .ref v8, .int l3]) rfl ?_
        obtain ⟨v9, ev9, H⟩ := Option.bind_eq_some_iff.mp H
        refine ev_4 hc_X1_mostWorth (fe_X1_mostWorth (pc := 88) rfl) (rR_al ev9) ?_
        refine ev_go hc_X1_mostWorth (k := 1) (pc' := 91) (L' := [.ref l0, .int l1, .int l2, .int l3, .int l4, .int q4.1]) (S' := [.int q4.1, .ref v9, .int l3]) rfl ?_
        obtain ⟨v10, ev10, H⟩ := Option.bind_eq_some_iff.mp H
        refine ev_4 hc_X1_mostWorth (fe_X1_mostWorth (pc := 91) rfl) (rI_al ev10) ?_
        refine ev_go hc_X1_mostWorth (k := 10) (pc' := 103) (L' := [.ref l0, .int (l1 &&& (((1 : Int32) <<< (q4.1 &&& 31)) ^^^ ((-1)))), .int l2, .int (l3 - v10), .int l4, .int q4.1]) (S' := []) rfl ?_
        exact Ev.weak (ci_le_c (Or.inr rfl) (ci_le_c (Or.inr rfl) (ci_le_c (Or.inr rfl) (ci_le_c (Or.inr rfl) (ci_le_c (Or.inr rfl) (ci_le_c (Or.inl rfl) (ci_le_n))))))) (eb_X1_mostWorth_103 hd ih H)
def b_X1_mostWorth_10 (l0 : Nat) (l1 : Int32) : Nat → Int32 → ci_H → Option (Int32 × ci_H)
  | 0, _, _ => none
  | n + 1, l2, h => (gR h l0 1 0).bind fun v1 => (gI h v1 10 5).bind fun v2 => if v2 ≤ l2 then ((F_X1_bestFrom l0 0 l1 h).bind fun q4 => b_X1_mostWorth_45 l0 q4.1 bigN l1 q4.1 0 q4.2) else ((F_X1_fillGains l0 l2 l1 h).bind fun h5 => b_X1_mostWorth_10 l0 l1 n (l2 + 1) h5)
set_option maxHeartbeats 4000000 in
set_option maxRecDepth 20000 in
theorem eb_X1_mostWorth_10 {xs : Nat → Int32} {N d : Nat} {nx : ci_N} {l0 : Nat} {l1 : Int32} (hd : 4 ≤ d) : ∀ (n : Nat) (l2 : Int32) (h : ci_H) (r : Int32 × ci_H), b_X1_mostWorth_10 l0 l1 n l2 h = some r → Ev xs N (d + 1) 5 10 [.ref l0, .int l1, .int l2, ci_junk, ci_junk, ci_junk] [] h nx (oI r nx) := by
  intro n
  induction n with
  | zero => intro l2 h r H; unfold b_X1_mostWorth_10 at H; cases H
  | succ n ih =>
    intro l2 h r H
    unfold b_X1_mostWorth_10 at H
    refine ev_go hc_X1_mostWorth (k := 2) (pc' := 12) (L' := [.ref l0, .int l1, .int l2, ci_junk, ci_junk, ci_junk]) (S' := [.ref l0, .int l2]) rfl ?_
    obtain ⟨v1, ev1, H⟩ := Option.bind_eq_some_iff.mp H
    refine ev_4 hc_X1_mostWorth (fe_X1_mostWorth (pc := 12) rfl) (gR_gf ev1) ?_
    obtain ⟨v2, ev2, H⟩ := Option.bind_eq_some_iff.mp H
    refine ev_4 hc_X1_mostWorth (fe_X1_mostWorth (pc := 15) rfl) (gI_gf ev2) ?_
    by_cases c3 : v2 ≤ l2
    · rw [if_pos c3] at H
      refine ev_bt hc_X1_mostWorth (fe_X1_mostWorth (pc := 18) rfl) rfl c3 ?_
      refine ev_go hc_X1_mostWorth (k := 3) (pc' := 36) (L' := [.ref l0, .int l1, .int l2, ci_junk, ci_junk, ci_junk]) (S' := [.int l1, .int 0, .ref l0]) rfl ?_
      obtain ⟨q4, eq4, H⟩ := Option.bind_eq_some_iff.mp H
      refine ev_call (vs := [.ref l0, .int 0, .int l1]) (rest := []) (q := q_X1_bestFrom) hc_X1_mostWorth (Or.inr rfl) (fe_X1_mostWorth (pc := 36) rfl) ms_8 rfl rfl (Nat.le_of_ble_eq_true rfl) (kO_recv (K_X1_bestFrom eq4)) (E_X1_bestFrom eq4 (by omega)) rfl ?_
      show Ev xs N (d + 1) 5 39 [.ref l0, .int l1, .int l2, ci_junk, ci_junk, ci_junk] [.int q4.1] q4.2 nx _
      refine ev_go hc_X1_mostWorth (k := 5) (pc' := 45) (L' := [.ref l0, .int l1, .int q4.1, .int q4.1, .int 0, ci_junk]) (S' := []) rfl ?_
      exact Ev.weak (ci_le_c (Or.inr rfl) (ci_le_c (Or.inr rfl) (ci_le_c (Or.inr rfl) (ci_le_c (Or.inr rfl) (ci_le_c (Or.inr rfl) (ci_le_c (Or.inl rfl) (ci_le_n))))))) (eb_X1_mostWorth_45 hd bigN _ _ _ _ _ H)
    · rw [if_neg c3] at H
      refine ev_bf hc_X1_mostWorth (fe_X1_mostWorth (pc := 18) rfl) rfl c3 ?_
      refine ev_go hc_X1_mostWorth (k := 3) (pc' := 24) (L' := [.ref l0, .int l1, .int l2, ci_junk, ci_junk, ci_junk]) (S' := [.int l1, .int l2, .ref l0]) rfl ?_
      obtain ⟨h5, eh5, H⟩ := Option.bind_eq_some_iff.mp H
      refine ev_call (vs := [.ref l0, .int l2, .int l1]) (rest := []) (q := q_X1_fillGains) hc_X1_mostWorth (Or.inr rfl) (fe_X1_mostWorth (pc := 24) rfl) ms_6 rfl rfl (Nat.le_of_ble_eq_true rfl) (kO_recv (K_X1_fillGains eh5)) (E_X1_fillGains eh5 (by omega)) rfl ?_
      show Ev xs N (d + 1) 5 27 [.ref l0, .int l1, .int l2, ci_junk, ci_junk, ci_junk] [] h5 nx _
      refine ev_go hc_X1_mostWorth (k := 2) (pc' := 10) (L' := [.ref l0, .int l1, .int (l2 + 1), ci_junk, ci_junk, ci_junk]) (S' := []) rfl ?_
      exact Ev.weak (ci_le_c (Or.inr rfl) (ci_le_c (Or.inr rfl) (ci_le_c (Or.inr rfl) (ci_le_c (Or.inl rfl) (ci_le_c (Or.inl rfl) (ci_le_c (Or.inl rfl) (ci_le_n))))))) (ih _ _ _ H)
def F_X1_mostWorth (a0 : Nat) (h : ci_H) : Option (Int32 × ci_H) := if kO h a0 = some 1 then ((gR h a0 1 0).bind fun v1 => (F_X10_nobodys v1 h).bind fun q2 => b_X1_mostWorth_10 a0 q2.1 bigN 0 q2.2) else none
theorem K_X1_mostWorth {a0 : Nat} {h : ci_H} {r : Int32 × ci_H} (H : F_X1_mostWorth a0 h = some r) : kO h a0 = some 1 := by
  unfold F_X1_mostWorth at H
  by_cases c : kO h a0 = some 1
  · exact c
  · rw [if_neg c] at H; cases H
set_option maxHeartbeats 4000000 in
set_option maxRecDepth 20000 in
theorem E_X1_mostWorth {xs : Nat → Int32} {N d : Nat} {nx : ci_N} {a0 : Nat} {h : ci_H} {r : Int32 × ci_H} (H : F_X1_mostWorth a0 h = some r) (hd : 5 ≤ d) : Ev xs N d 5 0 (ci_entry [.ref a0] 6) [] h nx (oI r nx) := by
  obtain ⟨d, rfl⟩ : ∃ d2, d = d2 + 1 := ⟨d - 1, by omega⟩
  have hd : 4 ≤ d := by omega
  unfold F_X1_mostWorth at H
  by_cases ck : kO h a0 = some 1
  · rw [if_pos ck] at H
    show Ev xs N (d + 1) 5 0 [.ref a0, ci_junk, ci_junk, ci_junk, ci_junk, ci_junk] [] h nx _
    refine ev_go hc_X1_mostWorth (k := 1) (pc' := 1) (L' := [.ref a0, ci_junk, ci_junk, ci_junk, ci_junk, ci_junk]) (S' := [.ref a0]) rfl ?_
    obtain ⟨v1, ev1, H⟩ := Option.bind_eq_some_iff.mp H
    refine ev_4 hc_X1_mostWorth (fe_X1_mostWorth (pc := 1) rfl) (gR_gf ev1) ?_
    obtain ⟨q2, eq2, H⟩ := Option.bind_eq_some_iff.mp H
    refine ev_call (vs := [.ref v1]) (rest := []) (q := q_X10_nobodys) hc_X1_mostWorth (Or.inr rfl) (fe_X1_mostWorth (pc := 4) rfl) ms_77 rfl rfl (Nat.le_of_ble_eq_true rfl) (kO_recv (K_X10_nobodys eq2)) (E_X10_nobodys eq2 (by omega)) rfl ?_
    show Ev xs N (d + 1) 5 7 [.ref a0, ci_junk, ci_junk, ci_junk, ci_junk, ci_junk] [.int q2.1] q2.2 nx _
    refine ev_go hc_X1_mostWorth (k := 3) (pc' := 10) (L' := [.ref a0, .int q2.1, .int 0, ci_junk, ci_junk, ci_junk]) (S' := []) rfl ?_
    exact Ev.weak (ci_le_c (Or.inr rfl) (ci_le_c (Or.inr rfl) (ci_le_c (Or.inr rfl) (ci_le_c (Or.inl rfl) (ci_le_c (Or.inl rfl) (ci_le_c (Or.inl rfl) (ci_le_n))))))) (eb_X1_mostWorth_10 hd bigN _ _ _ H)
  · rw [if_neg ck] at H; cases H
theorem hc_X2_place : ci_code (ci_Ms 14) = k_X2_place := rfl
theorem fe_X2_place {pc : Nat} {w : Option ci_I} (h : (k_X2_place)[pc]? = some w) : (k_X2_place)[pc]? = some w := h
def F_X2_place (a0 : Nat) (a1 : Int32) (h : ci_H) : Option (Int32 × ci_H) := if kO h a0 = some 2 then ((gI h a0 2 1).bind fun v1 => (rmI (v1 + a1) 13).bind fun v2 => some (v2, h)) else none
theorem K_X2_place {a0 : Nat} {a1 : Int32} {h : ci_H} {r : Int32 × ci_H} (H : F_X2_place a0 a1 h = some r) : kO h a0 = some 2 := by
  unfold F_X2_place at H
  by_cases c : kO h a0 = some 2
  · exact c
  · rw [if_neg c] at H; cases H
set_option maxHeartbeats 4000000 in
set_option maxRecDepth 20000 in
theorem E_X2_place {xs : Nat → Int32} {N d : Nat} {nx : ci_N} {a0 : Nat} {a1 : Int32} {h : ci_H} {r : Int32 × ci_H} (H : F_X2_place a0 a1 h = some r) (hd : 0 ≤ d) : Ev xs N d 14 0 (ci_entry [.ref a0, .int a1] 2) [] h nx (oI r nx) := by
  unfold F_X2_place at H
  by_cases ck : kO h a0 = some 2
  · rw [if_pos ck] at H
    show Ev xs N d 14 0 [.ref a0, .int a1] [] h nx _
    refine ev_go hc_X2_place (k := 1) (pc' := 1) (L' := [.ref a0, .int a1]) (S' := [.ref a0]) rfl ?_
    obtain ⟨v1, ev1, H⟩ := Option.bind_eq_some_iff.mp H
    refine ev_4 hc_X2_place (fe_X2_place (pc := 1) rfl) (gI_gf ev1) ?_
    refine ev_go hc_X2_place (k := 3) (pc' := 8) (L' := [.ref a0, .int a1]) (S' := [.int 13, .int (v1 + a1)]) rfl ?_
    obtain ⟨v2, ev2, H⟩ := Option.bind_eq_some_iff.mp H
    refine ev_1 hc_X2_place (fe_X2_place (pc := 8) rfl) (rmI_st ev2) ?_
    obtain rfl := Option.some.inj H
    exact ev_8 hc_X2_place (fe_X2_place (pc := 9) rfl) rfl
  · rw [if_neg ck] at H; cases H
