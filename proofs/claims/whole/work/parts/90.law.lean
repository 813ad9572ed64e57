/-- the law as a function over tables comes to 1 on every script -/
theorem wb_law (G : sp_G) (hL : G.2.1 ≤ 1536) : ∃ T', w187 G sw_T0 = some (1, T') := sorry
