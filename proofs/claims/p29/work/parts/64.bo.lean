/-! ===== the minutes ===== -/
theorem wb_passes {b : Nat} {c : Int} (hc : 0 ≤ c ∧ c ≤ 4000) : ∀ (k : Nat) (l N : Int) (T Tm : sw_T), wb_iv T b N → wb_rp T b (Tm 222) → Tm 221 9 = 0 → 0 ≤ l → c - l ≤ k → l ≤ c → ∀ m1 m2, k < m1 → k < m2 → ∃ T1 Tm1, w32_2 b c m1 T l = some T1 ∧ w120_2 c m2 Tm l = some Tm1 ∧ wb_iv T1 b (N + 8 * k) ∧ wb_rp T1 b (Tm1 222) ∧ wb_fc b T T1 ∧ wb_fm Tm Tm1 ∧ (T1 b 1 = T b 1 ∧ T1 (b + 1) = T (b + 1)) := by
  intro k
  induction k with
  | zero =>
    intro l N T Tm I R hs hl hk h7 m1 m2 h1 h2
    obtain ⟨m1, rfl⟩ : ∃ q, m1 = q + 1 := ⟨m1 - 1, by omega⟩
    obtain ⟨m2, rfl⟩ : ∃ q, m2 = q + 1 := ⟨m2 - 1, by omega⟩
    unfold w32_2 w120_2
    rw [wb_r2 ⟨by omega, by omega⟩ ⟨by omega, by omega⟩, Option.bind_some, if_neg (by omega), Option.bind_some, if_neg (by omega)]
    exact ⟨T, Tm, rfl, rfl, wb_iv_le I (by omega), R, wb_fc.rf, wb_fm.rf, rfl, rfl⟩
  | succ k ih =>
    intro l N T Tm I R hs hl hk h7 m1 m2 h1 h2
    obtain ⟨m1, rfl⟩ : ∃ q, m1 = q + 1 := ⟨m1 - 1, by omega⟩
    obtain ⟨m2, rfl⟩ : ∃ q, m2 = q + 1 := ⟨m2 - 1, by omega⟩
    unfold w32_2 w120_2
    rw [wb_r2 (a := l) (b := c) ⟨by omega, by omega⟩ ⟨by omega, by omega⟩, Option.bind_some, Option.bind_some]
    by_cases h3 : l < c
    · obtain ⟨T1, Tm1, e1, e2, e3, e4, e5, e6, e7⟩ := wb_minute (sh := 1) I R (.inl ⟨rfl, hs⟩)
      obtain ⟨T2, Tm2, g1, g2, g3, g4, g5, g6, g7⟩ := ih (l + 1) (N + 8) T1 Tm1 e3 e4 (by rw [e6 221 (by decide)]; exact hs) (by omega) (by omega) (by omega) m1 m2 (by omega) (by omega)
      rw [if_pos h3, if_pos h3, e1, e2, Option.bind_some, Option.bind_some]
      exact ⟨T2, Tm2, g1, g2, wb_iv_le g3 (by omega), g4, wb_fc.tr e5 g5, wb_fm.tr e6 g6, g7.1.trans e7.1, g7.2.trans e7.2.1⟩
    · rw [if_neg h3, if_neg h3]
      exact ⟨T, Tm, rfl, rfl, wb_iv_le I (by omega), R, wb_fc.rf, wb_fm.rf, rfl, rfl⟩
theorem wb_pass {b : Nat} {c N : Int} {T Tm : sw_T} (hc : 0 ≤ c ∧ c ≤ 4000) (I : wb_iv T b N) (R : wb_rp T b (Tm 222)) (hs : Tm 221 9 = 0) : ∃ T1 Tm1, w32 b T c = some T1 ∧ w120 Tm c = some Tm1 ∧ wb_iv T1 b (N + 8 * c) ∧ wb_rp T1 b (Tm1 222) ∧ wb_fc b T T1 ∧ wb_fm Tm Tm1 ∧ (T1 b 1 = T b 1 ∧ T1 (b + 1) = T (b + 1)) := by
  obtain ⟨k, rfl⟩ := Int.eq_ofNat_of_zero_le hc.1
  obtain ⟨T1, Tm1, e1, e2, e3⟩ := wb_passes hc k 0 N T Tm I R hs (by decide) (by omega) (by omega) sw_N sw_N (by unfold sw_N; omega) (by unfold sw_N; omega)
  refine ⟨T1, Tm1, ?_, ?_, e3⟩
  · unfold w32
    rw [e1, Option.bind_some]
  · unfold w120
    rw [e2]
    rfl
