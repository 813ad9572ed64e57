/-! ===== the work that is left ===== -/
theorem wb_w57_4 {T Tm : sw_T} {b : Nat} {N : Int} (I : wb_iv T b N) (R : wb_rp T b (Tm 222)) : ∀ (k : Nat) (l s : Int), 0 ≤ l → T (b + 20) 0 - l ≤ k → l ≤ 120 → ∀ m1 m2, k < m1 → k < m2 → ∃ v, w57_4 b T m1 s l = some v ∧ w122_4 Tm m2 s l = some v ∧ s ≤ v ∧ v ≤ s + 99 * k := by
  have h1 : 2 ≤ T b 1 ∧ T b 1 ≤ 7 := I.2.1.2.1
  have hc := I.2.1.2.2.2.2
  have m5 : Tm 222 5 = T (b + 20) 0 := (wb_rd_sc R h1.1).2.2.1
  intro k
  induction k with
  | zero =>
    intro l s hl hk h7 m1 m2 hm1 hm2
    obtain ⟨m1, rfl⟩ : ∃ q, m1 = q + 1 := ⟨m1 - 1, by omega⟩
    obtain ⟨m2, rfl⟩ : ∃ q, m2 = q + 1 := ⟨m2 - 1, by omega⟩
    unfold w57_4 w122_4
    rw [wb_r2 (a := l) (b := T (b + 20) 0) ⟨by omega, by omega⟩ ⟨by omega, by omega⟩, Option.bind_some, if_neg (by omega), wb_ld (T := Tm) (a := 222) (m := 543) (j := 5) (by decide), Option.bind_some, m5, wb_r2 (a := l) (b := T (b + 20) 0) ⟨by omega, by omega⟩ ⟨by omega, by omega⟩, Option.bind_some, if_neg (by omega)]
    exact ⟨s, rfl, rfl, by omega, by omega⟩
  | succ k ih =>
    intro l s hl hk h7 m1 m2 hm1 hm2
    obtain ⟨m1, rfl⟩ : ∃ q, m1 = q + 1 := ⟨m1 - 1, by omega⟩
    obtain ⟨m2, rfl⟩ : ∃ q, m2 = q + 1 := ⟨m2 - 1, by omega⟩
    unfold w57_4 w122_4
    rw [wb_r2 (a := l) (b := T (b + 20) 0) ⟨by omega, by omega⟩ ⟨by omega, by omega⟩, Option.bind_some, wb_ld (T := Tm) (a := 222) (m := 543) (j := 5) (by decide), Option.bind_some, m5, wb_r2 (a := l) (b := T (b + 20) 0) ⟨by omega, by omega⟩ ⟨by omega, by omega⟩, Option.bind_some]
    by_cases h2 : l < T (b + 20) 0
    · have ms : Tm 222 (183 + 3 * l + 0) = T (b + 21) l := wb_rd_shirt R ⟨hl, h2⟩ 21 (by decide)
      have hw := (I.2.2.2.2.2.2.1 l ⟨hl, h2⟩).1
      rw [if_pos h2, if_pos h2, wb_r2 (a := l) (b := 120) ⟨by omega, by omega⟩ (by decide), Option.bind_some, if_pos (by omega), wb_ld ⟨hl, by omega⟩, Option.bind_some, wb_w102 ⟨hl, by omega⟩ (by decide), Option.bind_some, ms]
      obtain ⟨v, e1, e2, e3, e4⟩ := ih (l + 1) (s + T (b + 21) l) (by omega) (by omega) (by omega) m1 m2 (by omega) (by omega)
      exact ⟨v, e1, e2, by omega, by omega⟩
    · rw [if_neg h2, if_neg h2]
      exact ⟨s, rfl, rfl, by omega, by omega⟩
theorem wb_left {T Tm : sw_T} {b : Nat} {N : Int} (I : wb_iv T b N) (R : wb_rp T b (Tm 222)) : ∃ v, w57 b T = some v ∧ w122 Tm = some v ∧ 0 ≤ v ∧ v ≤ 11880 := by
  have hc := I.2.1.2.2.2.2
  obtain ⟨v, e1, e2, e3, e4⟩ := wb_w57_4 I R 120 0 0 (by decide) (by omega) (by decide) sw_N sw_N (by decide) (by decide)
  refine ⟨v, ?_, ?_, e3, by omega⟩
  · unfold w57
    rw [e1, Option.bind_some]
  · unfold w122
    rw [e2, Option.bind_some]
