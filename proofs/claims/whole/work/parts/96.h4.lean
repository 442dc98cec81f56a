/-! PURE: rows of many numbers; pair: store. -/
def TK (μ : Mem) (v : Nat → Int64) : Nat → Mem
  | 0 => T0 μ
  | n + 1 => TB (TK μ v n) n (v n)
def MK (ν : Mem) (v : Nat → Int64) : Nat → Mem
  | 0 => M0 ν
  | n + 1 => MB (MK ν v n) n (v n)
section TMK
variable {κ : Kp} {μ ν : Mem} {v : Nat → Int64}
theorem TK_7 : ∀ n, (TK μ v n).1 0 7 = nI n
  | 0 => rfl
  | _ + 1 => rfl
theorem TK_cl : ∀ n, cl (TK μ v n) = cl μ
  | 0 => cl_T0
  | n + 1 => cl_TB.trans (TK_cl n)
theorem TK_n {a : Nat} (h : a ≠ 0) : ∀ n, (TK μ v n).1 a = μ.1 a
  | 0 => rowI_n h
  | n + 1 => (show (TB (TK μ v n) n (v n)).1 a = (TK μ v n).1 a from rowI_n h).trans (TK_n h n)
theorem TK_L : ∀ n i, i < n → (TK μ v n).2 91 i = v i
  | 0, i, h => absurd h (Nat.not_lt_zero _)
  | n + 1, i, h => by
    by_cases c : i = n
    · subst c
      exact pk_uLs
    · exact (show (TB (TK μ v n) n (v n)).2 91 i = (TK μ v n).2 91 i from pk_uLn c).trans (TK_L n i (by omega))
theorem MK_10 : ∀ n, (MK ν v n).1 127 10 = nI n
  | 0 => rfl
  | _ + 1 => rfl
theorem MK_cl : ∀ n, cl (MK ν v n) = cl ν
  | 0 => cl_M0
  | n + 1 => cl_MB.trans (MK_cl n)
theorem MK_n {a : Nat} (h : a ≠ 127) : ∀ n, (MK ν v n).1 a = ν.1 a
  | 0 => rowI_n h
  | n + 1 => (show (MB (MK ν v n) n (v n)).1 a = (MK ν v n).1 a from rowI_n h).trans (MK_n h n)
theorem MK_j {j : Nat} (h : j ≠ 10) : ∀ n, (MK ν v n).1 127 j = ν.1 127 j
  | 0 => pk_un h
  | n + 1 => (show (MB (MK ν v n) n (v n)).1 127 j = (MK ν v n).1 127 j from pk_un h).trans (MK_j h n)
theorem MK_L : ∀ n i, i < n → (MK ν v n).2 132 i = v i
  | 0, i, h => absurd h (Nat.not_lt_zero _)
  | n + 1, i, h => by
    by_cases c : i = n
    · subst c
      exact pk_uLs
    · exact (show (MB (MK ν v n) n (v n)).2 132 i = (MK ν v n).2 132 i from pk_uLn c).trans (MK_L n i (by omega))
theorem MK_91 : ∀ n, (MK ν v n).2 91 = ν.2 91
  | 0 => rfl
  | n + 1 => (show (MB (MK ν v n) n (v n)).2 91 = (MK ν v n).2 91 from rfl).trans (MK_91 n)
theorem row_K {n : Nat} (hn : n ≤ 6) (h0 : ν.1 0 7 = nI n) (h1 : ∀ i, i < n → ν.2 91 i = v i) : Row (MK ν v n) := by
  refine ⟨n, hn, ?_, MK_10 n, fun i hi => ?_⟩
  · rw [MK_n (by decide)]; exact h0
  · rw [MK_91, MK_L n i hi]
    exact h1 i hi
theorem x_tellK {n : Nat} (h : n < 6) : F_X11_tellBesides 0 (v n) (hp κ (TK μ v n)) = some (hp κ (TK μ v (n + 1))) := x_tellBesides h (TK_7 n)
theorem y_tellK {n : Nat} (h : n < 20) : F_X12_tell 127 (v n) (hp κ (MK ν v n)) = some (hp κ (MK ν v (n + 1))) := y_tell h (MK_10 n)
end TMK
section STO
variable {κ : Kp} {μ ν : Mem} {hc tc kc lm S ct : Nat}
theorem x_storeL {c : Int32} (h4 : μ.1 112 4 = nI ct) (hc6 : ct ≤ 6) {v : Nat → Int64} (hv : ∀ i, i < ct → (μ.1 115 i).toInt64 = v i) : b_X11_store_56 0 c bigN 0 (hp κ (T0 μ)) = some (c, hp κ (TK μ v ct)) := by
  have e4 : ∀ n, (TK μ v n).1 112 4 = nI ct := fun n => by rw [TK_n (by decide)]; exact h4
  have e5 : ∀ n i, (TK μ v n).1 115 i = μ.1 115 i := fun n i => by rw [TK_n (by decide)]
  refine lpk (fun n i => b_X11_store_56 0 c n (nI i) (hp κ (TK μ v i))) ct _ ?_ ?_ bigN 0 (Nat.zero_le _) (by unfold bigN; omega)
  · intro n i hi
    (try dsimp only)
    rw [b_X11_store_56, g0_15, obs, g112_4, obs, e4, if_neg (nI_ge hi (by omega)), obs, g112_3, obs, r115 (by omega), obs, e5, hv i hi, x_tellK (by omega), obs, nI_1]
  · intro n
    (try dsimp only)
    rw [b_X11_store_56, g0_15, obs, g112_4, obs, e4, if_pos (nI_le (Nat.le_refl _) (by omega))]
theorem y_storeL (hM : Mn ν hc tc kc lm) (hS : S < 4096) {v : Nat → Int64} : ∀ (n t c F : Nat), t + n = tc → c + (tl S n t).length ≤ 12 → (∀ k, k < (tl S n t).length → (ν.1 141 ((tl S n t).getD k 0)).toInt64 = v (c + k)) → b_X12_store_87 127 (nI S) (F + n + 1) (nI t) (hp κ (MK ν v c)) = some (ν.1 127 29, hp κ (MK ν v (c + (tl S n t).length))) := by
  have b2 := hM.2.2.2.2.2.1
  have e2 : ∀ n, (MK ν v n).1 127 2 = nI tc := fun n => by rw [MK_j (by decide)]; exact hM.2.1
  intro n
  induction n with
  | zero =>
    intro t c F ht _ _
    rw [b_X12_store_87, g127_2, obs, e2, if_pos (nI_le (by omega) (by omega)), g127_29, obs, MK_j (by decide)]
    rfl
  | succ n ih =>
    intro t c F ht hl hv
    show b_X12_store_87 127 (nI S) (F + n + 1 + 1) (nI t) (hp κ (MK ν v c)) = _
    rw [tl_s] at hl hv ⊢
    unfold b_X12_store_87 b_X12_store_114
    rw [g127_2, obs, e2, if_neg (nI_ge (by omega) (by omega)), y_has (by omega) (by omega), obs]
    (try dsimp only)
    by_cases cS : S.testBit t = true
    · rw [if_pos cS] at hl hv ⊢
      rw [List.length_cons] at hl hv
      have h0 := hv 0 (by omega)
      have h0 : (ν.1 141 t).toInt64 = v c := h0
      rw [if_pos cS, if_neg (show ¬ (1 : Int32) = 0 by decide), g127_28, obs, r141 (by omega), obs, MK_n (by decide), h0, y_tellK (by omega), obs, nI_1, ih (t + 1) (c + 1) F (by omega) (by omega) (fun k hk => by
        have := hv (k + 1) (by omega)
        rw [show c + (k + 1) = c + 1 + k by omega] at this
        exact this), List.length_cons, show c + 1 + (tl S n (t + 1)).length = c + ((tl S n (t + 1)).length + 1) by omega]
    · rw [if_neg cS] at hl hv ⊢
      rw [if_neg cS, if_pos rfl, nI_1]
      exact ih (t + 1) c F (by omega) hl hv
end STO
theorem getDN_mem {l : List Nat} {k : Nat} (h : k < l.length) : l.getD k 0 ∈ l := by
  simp [List.getD, List.getElem?_eq_getElem h]
theorem cl_s4 {μ ν : Mem} (h : ∀ z, z ≠ 112 → z ≠ 113 → z ≠ 114 → z ≠ 115 → ν.1 z = μ.1 z) : cl ν = cl μ := by
  funext a j
  by_cases c1 : a = 112
  · subst c1; rfl
  · by_cases c2 : a = 113
    · subst c2; rfl
    · by_cases c3 : a = 114
      · subst c3; rfl
      · by_cases c4 : a = 115
        · subst c4; rfl
        · unfold cl
          rw [h a c1 c2 c3 c4]
theorem gs_cl {ν : Mem} {T f : Nat → Int32} {bm : Nat} : cl (gsM ν T bm f) = cl ν := by
  unfold gsM
  rw [cl_up rfl rfl, cl_row rfl (fun j => by unfold rel; rfl), cl_row rfl (fun j => by unfold rel; rfl)]
theorem pr_store : P1 F_X11_store F_X12_store := by
  intro x κ B μ hR hB hI
  (try dsimp only)
  obtain ⟨hc, tc, kc, lm, hb⟩ := hI.bs
  have d0 : ¬ (1 : Int32) = 0 := by decide
  have b1 := hb.b1
  have b2 := hb.b2
  have b3 := hb.b3
  have b4 := hb.b4
  have hp12 : 2 ^ tc ≤ 2 ^ 12 := Nat.pow_le_pow_right (by decide) b2
  rcases x_hasThings (κ := κ) hb.1 x with ⟨S, hS, rfl, h1⟩ | ⟨hx, h1⟩
  · have hS4 : S < 4096 := by omega
    have hcn := cn_le S
    by_cases c6 : cn S ≤ 6
    · have n6 : ¬ (6 : Int32) < nI (cn S) := nI_nlt (a := 6) (by omega) (by decide)
      have hOl : S &&& OW μ tc (-1) < 4096 := Nat.lt_of_le_of_lt Nat.and_le_left hS4
      by_cases cN : S &&& OW μ tc (-1) = 0
      · obtain ⟨ν, k1, k2, k3, k4⟩ := x_fewestM (κ := κ) hb.xc hS4 c6
        have eN : cl ν = cl μ := cl_s4 k2
        -- the reference, over any memory of the like
        have hY : ∀ ρ : Mem, cl ρ = cl μ → ∃ bm' f', F_X12_store 127 (nI S) (hp κ ρ) = (if nI bm' = 1000000 then some (-2, hp κ (gsM (Zr ρ) (fb_put ((Zr ρ).1 138) (μ.1 128) 0 42) bm' f')) else b_X12_store_87 127 (nI S) bigN 0 (hp κ (M0 (gsM (Zr ρ) (fb_put ((Zr ρ).1 138) (μ.1 128) 0 42) bm' f')))) ∧ Res (fun p f' => ∀ u, u < tc → f' u = asg (fb_put ((Zr ρ).1 138) (μ.1 128) 0 42) (tl S tc 0) p (24 + u)) (opt (μ.1 128) (μ.1 129) (μ.1 130) hc kc (tl S tc 0) (D0 (μ.1 128) (μ.1 129) (μ.1 130) tc lm S)) 0 1000000 ((Zr ρ).1 141) bm' f' := fun ρ e => by
          have e3 : cl (Zr ρ) = cl μ := cl_Z.trans e
          have hTq : ∀ q, q < 42 → fb_put ((Zr ρ).1 138) (μ.1 128) 0 42 q = μ.1 128 q := fun q hq => by
            rw [fb_put_in (by omega) (by omega)]
            rfl
          have hlay := y_lay (κ := κ) (μ := Zr ρ) (s := 128) (d := 138) (off := 0) (n := 42) rfl rfl (by decide) (by decide)
          rw [f128 e3] at hlay
          have hlay : F_X12_lay 128 138 0 (hp κ (Zr ρ)) = _ := hlay
          have hgo := y_goStore (κ := κ) (ν := Zr ρ) (hb.mv e3).2.1 hS4 tc 0 (99 - tc) 0 1000000 (fb_put ((Zr ρ).1 138) (μ.1 128) 0 42) ((Zr ρ).1 141) (D0 (μ.1 128) (μ.1 129) (μ.1 130) tc lm S) (by omega) (fun q hq => by rw [f128 e3]; exact hTq q (by omega)) (fun u _ _ hu => by rw [f128 e3]; exact hTq _ (by omega)) (fun y hy k hk => by
            rw [f128 e3, f129 e3, f130 e3, dc_0]
            have : kp (fun u => fb_put ((Zr ρ).1 138) (μ.1 128) 0 42 (24 + u)) tc (nI y) = kp (fun u => μ.1 128 (24 + u)) tc (nI y) := sb_cong (fun u hu => by simp only [hTq (24 + u) (by omega)])
            rw [this]
            rfl) (by omega) (Nat.le_refl _)
          rw [f128 e3, f129 e3, f130 e3, show 99 - tc + tc + 1 = 100 by omega] at hgo
          obtain ⟨bm', f', g1, -, g3⟩ := hgo
          have g1 : F_X12_goStore 127 (nI S) 0 0 (hp κ (gsM (Zr ρ) (fb_put ((Zr ρ).1 138) (μ.1 128) 0 42) 1000000 ((Zr ρ).1 141))) = _ := g1
          refine ⟨bm', f', ?_, g3⟩
          have e0 : upI (rowI (Zr ρ) 138 (fb_put ((Zr ρ).1 138) (μ.1 128) 0 42)) 127 29 1000000 = gsM (Zr ρ) (fb_put ((Zr ρ).1 138) (μ.1 128) 0 42) 1000000 ((Zr ρ).1 141) := by
            unfold gsM
            have : rowI (rowI (Zr ρ) 138 (fb_put ((Zr ρ).1 138) (μ.1 128) 0 42)) 141 ((Zr ρ).1 141) = rowI (Zr ρ) 138 (fb_put ((Zr ρ).1 138) (μ.1 128) 0 42) := rowI_id
            rw [this]
            rfl
          have e29 : ∀ T f bm, (gsM (Zr ρ) T bm f).1 127 29 = nI bm := fun _ _ _ => rfl
          unfold F_X12_store
          rw [if_pos q127, p11, obs, Y_areThings1 hb e3 hS, obs]
          (try dsimp only)
          rw [if_neg d0, bc hS4, obs]
          (try dsimp only)
          rw [if_neg n6, g127_0, obs, Y_owned hb e3, obs]
          (try dsimp only)
          rw [i_and, if_pos (show nI (S &&& OW μ tc (-1)) = 0 by rw [cN]; rfl), g127_0, obs, g127_25, obs, hlay, obs, p127_29, obs, e0, g1, obs, g127_29, obs, e29]
          by_cases z : nI bm' = 1000000
          · rw [if_pos z, if_pos z]
          · rw [if_neg z, if_neg z, p10, obs]
        have hXs : F_X11_store 0 (nI S) (hp κ μ) = (if oN (opt (μ.1 128) (μ.1 129) (μ.1 130) hc kc (tl S tc 0) (D0 (μ.1 128) (μ.1 129) (μ.1 130) tc lm S)) < 0 then some (oN (opt (μ.1 128) (μ.1 129) (μ.1 130) hc kc (tl S tc 0) (D0 (μ.1 128) (μ.1 129) (μ.1 130) tc lm S)), hp κ ν) else b_X11_store_56 0 (oN (opt (μ.1 128) (μ.1 129) (μ.1 130) hc kc (tl S tc 0) (D0 (μ.1 128) (μ.1 129) (μ.1 130) tc lm S))) bigN 0 (hp κ (T0 ν))) := by
          unfold F_X11_store
          rw [if_pos q0, g0_0, obs, h1, obs]
          (try dsimp only)
          rw [if_neg d0, bc hS4, obs]
          (try dsimp only)
          rw [if_neg n6, g0_0, obs, C_nobodys hb.xc, obs]
          (try dsimp only)
          rw [i_and, if_pos (show nI (S &&& kp (fun t => μ.1 128 (12 + t)) tc (-1)) = 0 by rw [show S &&& kp (fun t => μ.1 128 (12 + t)) tc (-1) = 0 from cN]; rfl), g0_15, obs, k1, obs]
          (try dsimp only)
          rw [x_tellNothing, obs]
        have hol := opt_len (A := μ.1 128) (mu := μ.1 129) (mn := μ.1 130) (hc := hc) (kc := kc) (tl S tc 0) (D0 (μ.1 128) (μ.1 129) (μ.1 130) tc lm S)
        have htl : (tl S tc 0).length ≤ 6 := Nat.le_trans (tl_cn b2) c6
        cases ho : opt (μ.1 128) (μ.1 129) (μ.1 130) hc kc (tl S tc 0) (D0 (μ.1 128) (μ.1 129) (μ.1 130) tc lm S) with
        | none =>
          obtain ⟨bm', f', y1, y2⟩ := hY ν eN
          rw [ho] at y2 hXs
          obtain ⟨z1, z2⟩ := y2.2 (fun x hx => nomatch hx)
          refine ⟨-2, ν, gsM (Zr ν) (fb_put ((Zr ν).1 138) (μ.1 128) 0 42) bm' f', ?_, ?_, ?_⟩
          · rw [hXs]
            exact if_pos ng_2
          · rw [y1, if_pos (show nI bm' = 1000000 by rw [z1]; rfl)]
          · refine inv_keep hI (by rw [gs_cl, cl_Z, eN]) ?_ ?_ ?_ ?_
            · rw [gs_n (by decide) (by decide) (by decide), Zr_n (by decide), k2 0 (by decide) (by decide) (by decide) (by decide)]
            · rw [gs_j (by decide)]
              show ν.1 127 10 = _
              rw [k2 127 (by decide) (by decide) (by decide) (by decide)]
            · show ν.2 91 = _
              rw [k3]
            · show ν.2 132 = _
              rw [k3]
        | some x =>
          obtain ⟨m1, m2⟩ := k4 x ho
          obtain ⟨l1, l2, -⟩ := hol x ho
          rw [ho] at hXs
          have hxn : ¬ oN (some x) < 0 := nI_pos (show x.1 < 2 ^ 31 by omega)
          generalize hv : (fun k => (nI (x.2.getD k 0)).toInt64 : Nat → Int64) = v
          have hx3 := x_storeL (κ := κ) (μ := ν) (c := nI x.1) m1 htl (v := v) (fun i hi => by rw [m2 i hi, ← hv])
          have eK : cl (TK ν v (tl S tc 0).length) = cl μ := (TK_cl _).trans eN
          obtain ⟨bm', f', y1, y2⟩ := hY (TK ν v (tl S tc 0).length) eK
          rw [ho] at y2
          obtain ⟨z1, z2⟩ := y2.1 x rfl (by omega)
          rw [Nat.zero_add] at z1
          subst z1
          generalize hT : fb_put ((Zr (TK ν v (tl S tc 0).length)).1 138) (μ.1 128) 0 42 = T at y1 z2
          have hMg : Mn (gsM (Zr (TK ν v (tl S tc 0).length)) T x.1 f') hc tc kc lm := (hb.mv (cl_Z.trans eK)).2.1.gs
          have hy3 := y_storeL (κ := κ) hMg hS4 (v := v) tc 0 0 (4999 - tc) (by omega) (by omega) (fun k hk => by
            have hm : (tl S tc 0).getD k 0 < tc := by
              have : (tl S tc 0).getD k 0 ∈ tl S tc 0 := by
                exact getDN_mem hk
              have := tl_mem tc 0 _ this
              omega
            show (f' ((tl S tc 0).getD k 0)).toInt64 = _
            rw [z2 _ hm, asg_tl tc 0 x.2 T k l1 hk, Nat.zero_add, ← hv])
          rw [show 4999 - tc + tc + 1 = 5000 by omega, Nat.zero_add] at hy3
          have hn9 : ¬ nI x.1 = 1000000 := fun z => absurd ((i_eq (b := 1000000) (by omega) (by decide)).mp z) (by omega)
          refine ⟨nI x.1, TK ν v (tl S tc 0).length, MK (gsM (Zr (TK ν v (tl S tc 0).length)) T x.1 f') v (tl S tc 0).length, ?_, ?_, ?_, ?_⟩
          · rw [hXs, if_neg hxn]
            exact hx3
          · rw [y1, if_neg hn9]
            exact hy3
          · rw [MK_cl, gs_cl, cl_Z, eK]
            exact hI.1.up (by omega)
          · refine row_K htl ?_ (fun i hi => ?_)
            · rw [gs_n (by decide) (by decide) (by decide), Zr_n (by decide)]
              exact TK_7 _
            · show (TK ν v (tl S tc 0).length).2 91 i = v i
              exact TK_L _ i hi
      · have nz : ¬ nI (S &&& OW μ tc (-1)) = 0 := fun z => cN ((i_eq0 (by omega)).mp z)
        refine ⟨-3, μ, Zr μ, ?_, ?_, inv_Z hI⟩
        · unfold F_X11_store
          rw [if_pos q0, g0_0, obs, h1, obs]
          (try dsimp only)
          rw [if_neg d0, bc hS4, obs]
          (try dsimp only)
          rw [if_neg n6, g0_0, obs, C_nobodys hb.xc, obs]
          (try dsimp only)
          rw [i_and, if_neg (show ¬ nI (S &&& kp (fun t => μ.1 128 (12 + t)) tc (-1)) = 0 from nz)]
        · unfold F_X12_store
          rw [if_pos q127, p11, obs, Y_areThings1 hb cl_Z hS, obs]
          (try dsimp only)
          rw [if_neg d0, bc hS4, obs]
          (try dsimp only)
          rw [if_neg n6, g127_0, obs, Y_owned hb cl_Z, obs]
          (try dsimp only)
          rw [i_and, if_neg nz]
    · have n6 : (6 : Int32) < nI (cn S) := nI_lt (a := 6) (by omega) (by omega)
      refine ⟨-3, μ, Zr μ, ?_, ?_, inv_Z hI⟩
      · unfold F_X11_store
        rw [if_pos q0, g0_0, obs, h1, obs]
        (try dsimp only)
        rw [if_neg d0, bc hS4, obs]
        (try dsimp only)
        rw [if_pos n6]
      · unfold F_X12_store
        rw [if_pos q127, p11, obs, Y_areThings1 hb cl_Z hS, obs]
        (try dsimp only)
        rw [if_neg d0, bc hS4, obs]
        (try dsimp only)
        rw [if_pos n6]
  · refine ⟨-1, μ, Zr μ, ?_, ?_, inv_Z hI⟩
    · unfold F_X11_store
      rw [if_pos q0, g0_0, obs, h1, obs]
      (try dsimp only)
      rw [if_pos rfl]
    · unfold F_X12_store
      rw [if_pos q127, p11, obs, Y_areThings0 hb cl_Z hx, obs]
      (try dsimp only)
      rw [if_pos rfl]
