/-! TEMPORARY: pairs that are missing. -/
theorem pr_things : P0 F_X11_things F_X12_things := sorry
theorem pr_kinds : P0 F_X11_kinds F_X12_kinds := sorry
theorem pr_rule : P0 F_X11_rule F_X12_rule := sorry
theorem pr_worth : P2 F_X11_worth F_X12_worth := sorry
theorem pr_buy : P2 F_X11_buy F_X12_buy := sorry
theorem pr_day : P0 F_X11_day F_X12_day := sorry
theorem pr_rid : P1 F_X11_rid F_X12_rid := sorry
theorem pr_most : P1 F_X11_most F_X12_most := sorry
theorem pr_trust : P1 F_X11_trust F_X12_trust := sorry
theorem pr_store : P1 F_X11_store F_X12_store := sorry
theorem pr_deal : P0 F_X11_deal F_X12_deal := sorry
