/-! PURE: the law's loop: each call. -/
def LJ (i : Nat) : List Value := [.ref ci_scr, .ref 0, .ref 127, .ref 148, .int (nI (5 * i)), ci_junk, ci_junk, ci_junk]
/-- one call: the memory behind it, and what is made -/
def LC (xs : Nat → Int32) (N i B : Nat) (κ : Kp) (μ : Mem) (nx : ci_N) (pc : Nat) : Prop := ∃ (μ' : Mem) (nx' : ci_N), Inv (B + 1200) μ' ∧ nx'.2.1 ≤ nx.2.1 + 1 ∧ nx'.2.2 ≤ nx.2.2 + 6 ∧ ∀ r, Ev xs N 1990 287 1752 (LJ i) [] (hp κ μ') nx' r → Ev xs N 1990 287 pc (LJ i) [] (hp κ μ) nx r
theorem ev_weak {xs : Nat → Int32} {N d M pc : Nat} {L L' S : List Value} {h : ci_H} {nx : ci_N} {r : Option Value × ci_H × ci_N} (hl : ci_le L L') (he : Ev xs N d M pc L S h nx r) : Ev xs N d M pc L' S h nx r := by
  obtain ⟨n, hn⟩ := he
  exact ⟨n, ci_weak n d M pc L L' S _ nx r hl hn⟩
theorem law_le {i : Nat} (a b : Value) : ci_le (LJ i) [.ref ci_scr, .ref 0, .ref 127, .ref 148, .int (nI (5 * i)), a, b, ci_junk] := ci_le_c (Or.inr rfl) (ci_le_c (Or.inr rfl) (ci_le_c (Or.inr rfl) (ci_le_c (Or.inr rfl) (ci_le_c (Or.inr rfl) (ci_le_c (Or.inl rfl) (ci_le_c (Or.inl rfl) (ci_le_c (Or.inr rfl) ci_le_n)))))))
theorem law_rd {xs : Nat → Int32} {N i m : Nat} {h : ci_H} {S : List Value} (hm : m ≤ 4) (hN : N ≤ 2560) (hi : 5 * i + 5 ≤ N) : ci_st4 .iaload 0 0 h xs N (.int (nI (5 * i) + nI m) :: .ref ci_scr :: S) = some (.int (xs (5 * i + m)) :: S) := by
  rw [nI_add]
  show ci_ial h xs N (.int (nI (5 * i + m)) :: .ref ci_scr :: S) = _
  unfold ci_ial
  dsimp only
  rw [if_pos rfl, if_pos (show ci_in (nI (5 * i + m)) N = true from decide_eq_true (nI_in (by omega) (by omega))), nI_clamp (by omega)]
theorem law_catT {κ : Kp} {μ : Mem} {nx : ci_N} (u : Int32) : ci_cat (some (.int u)) 148 (hp κ μ) nx = some (0, hp κ (upL μ 148 0 u.toInt64), nx) := by
  show (match ci_arr (hp κ μ) 148 with
    | some (.long, n, .inr (.inl f)) => if 0 < n then some ((0 : Int32), va_up (hp κ μ) 148 (.inl (.long, n, .inr (.inl (vp_updL f 0 u.toInt64)))), nx) else none
    | _ => none) = _
  rw [ci_arr_hp (show hp_T[148]? = some (1, 1, []) from rfl)]
  show (if 0 < 1 then some ((0 : Int32), va_up (hp κ μ) 148 (.inl (.long, 1, .inr (.inl (vp_updL (μ.2 148) 0 u.toInt64)))), nx) else none) = _
  rw [if_pos (by decide), hp_up (μ := μ) (ν := upL μ 148 0 u.toInt64) (show hp_T[148]? = some (1, 1, []) from rfl) _ (fun b hb => rfl) (fun b hb => rowL_n hb)]
  show _ = Sum.inl (FieldType.long, 1, Sum.inr (Sum.inl ((upL μ 148 0 u.toInt64).2 148)))
  rw [rowL_s]
theorem law_catU {κ : Kp} {μ : Mem} {nx : ci_N} (u : Int64) : ci_cat (some (.long u)) 148 (hp κ μ) nx = some (0, hp κ (upL μ 148 0 u), nx) := by
  show (match ci_arr (hp κ μ) 148 with
    | some (.long, n, .inr (.inl f)) => if 0 < n then some ((0 : Int32), va_up (hp κ μ) 148 (.inl (.long, n, .inr (.inl (vp_updL f 0 u)))), nx) else none
    | _ => none) = _
  rw [ci_arr_hp (show hp_T[148]? = some (1, 1, []) from rfl)]
  show (if 0 < 1 then some ((0 : Int32), va_up (hp κ μ) 148 (.inl (.long, 1, .inr (.inl (vp_updL (μ.2 148) 0 u)))), nx) else none) = _
  rw [if_pos (by decide), hp_up (μ := μ) (ν := upL μ 148 0 u) (show hp_T[148]? = some (1, 1, []) from rfl) _ (fun b hb => rfl) (fun b hb => rowL_n hb)]
  show _ = Sum.inl (FieldType.long, 1, Sum.inr (Sum.inl ((upL μ 148 0 u).2 148)))
  rw [rowL_s]
theorem law_out {xs : Nat → Int32} {N : Nat} {κ : Kp} {ν : Mem} : ci_st4 .laload 0 0 (hp κ ν) xs N [.int 0, .ref 148] = some [.long (ν.2 148 0)] := by
  have h := r148 (κ := κ) (μ := ν) (k := 0) (by decide)
  exact rL_al (j := 0) h
theorem y_thrown {κ : Kp} {ν : Mem} {v : Int32} (h : ν.1 127 11 = v) : F_X12_thrown 127 (hp κ ν) = some (v, hp κ ν) := by
  unfold F_X12_thrown
  rw [if_pos q127, g127_11, obs, h]
section EV14
variable {xs : Nat → Int32} {N d M pc : Nat} {L S : List Value} {h : ci_H} {nx : ci_N} {r : Option Value × ci_H × ci_N} {code : List (Option ci_I)}
theorem ev_14 (hc : ci_code (ci_Ms M) = code) {i : Instr} {x y o : Nat} {v u : Int32} {q : ci_Y} {vs rest : List Value} {rv : Option Value} {h' h2 : ci_H} {nx' nx2 : ci_N} (hf : code[pc]? = some (some (i, 3, v, x, y, 14))) (hq : ci_Ms x = q) (hk : vs.length = ci_k q) (hfew : ci_few rest = true) (hsl : (ci_sl vs).length ≤ ci_n q) (hrc : ci_recv 11 y h vs = true) (hin : ci_ints (vs.drop 1) = true)
    (hcal : Ev xs N d x 0 (ci_entry vs (ci_n q)) [] h nx (rv, h', nx')) (hcat : ci_cat rv o h' nx' = some (u, h2, nx2)) (kk : Ev xs N (d + 2) M (pc + 3) L (.int u :: rest) h2 nx2 r) : Ev xs N (d + 2) M pc L (.ref o :: (vs.reverse ++ rest)) h nx r := by
  obtain ⟨n1, h1⟩ := hcal
  obtain ⟨n2, h3⟩ := kk
  refine ⟨n1 + n2 + 1, ?_⟩
  have e1 : (vs.reverse ++ rest).take (ci_k (ci_Ms x)) = vs.reverse := by rw [hq, ← hk, ← List.length_reverse]; exact List.take_left
  have e2 : (vs.reverse ++ rest).drop (ci_k (ci_Ms x)) = rest := by rw [hq, ← hk, ← List.length_reverse]; exact List.drop_left
  have e3 : ci_k (ci_Ms x) ≤ (vs.reverse ++ rest).length := by rw [hq, ← hk, List.length_append, List.length_reverse]; omega
  have r1 := ci_more _ _ _ _ _ _ _ _ _ h1 n2
  have r2 := ci_more _ _ _ _ _ _ _ _ _ h3 n1
  rw [Nat.add_comm n2 n1] at r2
  unfold ci_run
  rw [hc, hf]
  show (if ci_k (ci_Ms x) ≤ (vs.reverse ++ rest).length ∧ ci_few ((vs.reverse ++ rest).drop (ci_k (ci_Ms x))) = true ∧ (ci_sl ((vs.reverse ++ rest).take (ci_k (ci_Ms x))).reverse).length ≤ ci_n (ci_Ms x) ∧ ci_recv 11 y h ((vs.reverse ++ rest).take (ci_k (ci_Ms x))).reverse = true ∧ ci_ints (((vs.reverse ++ rest).take (ci_k (ci_Ms x))).reverse.drop 1) = true then
      match ci_run ci_Ms ci_cls ci_fty xs N (n1 + n2) d x 0 (ci_entry ((vs.reverse ++ rest).take (ci_k (ci_Ms x))).reverse (ci_n (ci_Ms x))) [] h nx with
      | some q => match ci_cat q.1 o q.2.1 q.2.2 with
        | some u => ci_run ci_Ms ci_cls ci_fty xs N (n1 + n2) (d + 2) M (pc + 3) L (.int u.1 :: (vs.reverse ++ rest).drop (ci_k (ci_Ms x))) u.2.1 u.2.2
        | none => none
      | none => none
      else none) = some r
  rw [e1, e2, List.reverse_reverse, if_pos ⟨e3, hfew, by rw [hq]; exact hsl, hrc, hin⟩, hq, r1]
  show (match ci_cat rv o h' nx' with
    | some u => ci_run ci_Ms ci_cls ci_fty xs N (n1 + n2) (d + 2) M (pc + 3) L (.int u.1 :: rest) u.2.1 u.2.2
    | none => none) = some r
  rw [hcat]
  exact r2
end EV14
