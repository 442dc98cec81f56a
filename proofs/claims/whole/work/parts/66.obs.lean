/-! PURE: bind, told so that no kernel unfolds what is bound. -/
theorem obs {α β : Type} (a : α) (f : α → Option β) : (some a).bind f = f a := (fun (h : ∀ x, x = some a → x.bind f = f a) => h _ rfl) (fun x hx => by subst hx; rfl)
set_option maxRecDepth 100000 in
theorem pr_strike : P1 F_X11_strike F_X12_strike := by
  intro x κ B μ hR hB hI
  obtain ⟨hc, tc, kc, lm, hb⟩ := hI.bs
  dsimp only
  rcases ix_hc hb x with ⟨j, hj, rfl⟩ | hx
  · have b2 := hb.b2
    have b3 := hb.b3
    have hlt := BB_lt (μ := μ) (tc := tc) (lm := lm) (s := KP μ tc (nI j)) b3
    refine ⟨nI (cn (BB μ tc kc lm (KP μ tc (nI j)))), TB (T0 μ) 0 (nI (BB μ tc kc lm (KP μ tc (nI j)))).toInt64, R1 μ (nI (BB μ tc kc lm (KP μ tc (nI j)))).toInt64, ?_, ?_, inv_R1 hI⟩
    · unfold F_X11_strike
      simp only [if_pos q0, g0_0, obs, X_hasHouse1 hb rfl hj, if_neg (show ¬ (1 : Int32) = 0 by decide), X_kept hb rfl, X_broken hb rfl (KP_lt b2), x_tellOne, bc (show BB μ tc kc lm (KP μ tc (nI j)) < 4096 by omega)]
    · unfold F_X12_strike
      have e1 : cl (Zr (TB (T0 μ) 0 (nI (BB μ tc kc lm (KP μ tc (nI j)))).toInt64)) = cl μ := by rw [cl_Z, cl_TB, cl_T0]
      have e2 : cl (M0 (Zr (TB (T0 μ) 0 (nI (BB μ tc kc lm (KP μ tc (nI j)))).toInt64))) = cl μ := by rw [cl_M0, e1]
      simp only [if_pos q127, p11, obs, Y_isHouse1 hb e1 hj, if_neg (show ¬ (1 : Int32) = 0 by decide), p10, g127_0, Y_breaks hb e2, y_tell (i := 0) (show 0 < 20 by decide) (show (M0 (Zr (TB (T0 μ) 0 (nI (BB μ tc kc lm (KP μ tc (nI j)))).toInt64))).1 127 10 = nI 0 from rfl), Y_breaks hb (cl_MB.trans e2), bc (show BB μ tc kc lm (KP μ tc (nI j)) < 4096 by omega)]
      rfl
  · refine ⟨-1, μ, Zr μ, ?_, ?_, inv_Z hI⟩
    · unfold F_X11_strike
      simp only [if_pos q0, g0_0, obs, X_hasHouse0 hb rfl hx, if_true]
    · unfold F_X12_strike
      simp only [if_pos q127, p11, obs, Y_isHouse0 hb cl_Z hx, if_true]
