/-! ===== a load ===== -/
theorem wb_w44_hi {T : sw_T} {b : Nat} {N w : Int} (I : wb_iv T b N) (hw : 0 ≤ w ∧ w < 7) : ∀ (k : Nat) (l s : Int), T (b + 11) w ≤ l → 0 ≤ l → 16 - l ≤ k → l ≤ 16 → ∀ m, k < m → w44_26 b T w m s l = some s := by
  have h16 := (I.2.2.1 w hw).2.2.2.2.2.2.2
  intro k
  induction k with
  | zero =>
    intro l s hh hl hk h7 m hm
    obtain ⟨m, rfl⟩ : ∃ q, m = q + 1 := ⟨m - 1, by omega⟩
    unfold w44_26
    rw [wb_r2 (a := l) (b := 16) ⟨by omega, by omega⟩ (by decide), Option.bind_some, if_neg (by omega)]
  | succ k ih =>
    intro l s hh hl hk h7 m hm
    obtain ⟨m, rfl⟩ : ∃ q, m = q + 1 := ⟨m - 1, by omega⟩
    unfold w44_26
    rw [wb_r2 (a := l) (b := 16) ⟨by omega, by omega⟩ (by decide), Option.bind_some]
    by_cases h2 : l < 16
    · rw [if_pos h2, wb_w19 hw ⟨by omega, by omega⟩ h16, Option.bind_some, if_neg (by omega), wb_w53n, Option.bind_some, Int.add_zero]
      exact ih (l + 1) s (by omega) (by omega) (by omega) (by omega) m (by omega)
    · rw [if_neg h2]
theorem wb_w44_lo {T Tm : sw_T} {b : Nat} {N w : Int} (I : wb_iv T b N) (R : wb_rp T b (Tm 222)) (hw : 0 ≤ w ∧ w < T b 1) : ∀ (k : Nat) (l s : Int), 0 ≤ l → T (b + 11) w - l ≤ k → l ≤ T (b + 11) w → ∀ m1 m2, k + 17 < m1 → k < m2 → ∃ v, w44_26 b T w m1 s l = some v ∧ w146_29 Tm w m2 s l = some v ∧ s ≤ v ∧ v ≤ s + 99 * k := by
  have h1 : 2 ≤ T b 1 ∧ T b 1 ≤ 7 := I.2.1.2.1
  have hc := I.2.1.2.2.2.2
  have hw7 : 0 ≤ w ∧ w < 7 := ⟨hw.1, by omega⟩
  have h16 := (I.2.2.1 w hw7).2.2.2.2.2.2.2
  have mh : Tm 222 (8 + 9 * w + 8) = T (b + 11) w := wb_rd_hgt R h1.2 hw
  intro k
  induction k with
  | zero =>
    intro l s hl hk h7 m1 m2 hm1 hm2
    obtain ⟨m2, rfl⟩ : ∃ q, m2 = q + 1 := ⟨m2 - 1, by omega⟩
    refine ⟨s, wb_w44_hi I hw7 16 l s (by omega) hl (by omega) (by omega) m1 (by omega), ?_, by omega, by omega⟩
    unfold w146_29
    rw [wb_w98 hw7 (by decide), Option.bind_some, mh, wb_r2 (a := l) (b := T (b + 11) w) ⟨by omega, by omega⟩ ⟨by omega, by omega⟩, Option.bind_some, if_neg (by omega)]
  | succ k ih =>
    intro l s hl hk h7 m1 m2 hm1 hm2
    by_cases h2 : l < T (b + 11) w
    · obtain ⟨m1, rfl⟩ : ∃ q, m1 = q + 1 := ⟨m1 - 1, by omega⟩
      obtain ⟨m2, rfl⟩ : ∃ q, m2 = q + 1 := ⟨m2 - 1, by omega⟩
      obtain ⟨hs, -, -⟩ := I.2.2.2.2.1 w l hw7 ⟨hl, h2⟩
      have hk2 := (I.2.2.2.2.2.2.1 _ hs).1
      have mp := wb_rd_pile R h1.2 hw (p := l) ⟨hl, h2⟩ h16.2
      have ms : Tm 222 (183 + 3 * wb_pi T b w l + 0) = T (b + 21) (wb_pi T b w l) := wb_rd_shirt R hs 21 (by decide)
      obtain ⟨v, e1, e2, e3, e4⟩ := ih (l + 1) (s + T (b + 21) (wb_pi T b w l)) (by omega) (by omega) (by omega) m1 m2 (by omega) (by omega)
      refine ⟨v, ?_, ?_, by omega, by omega⟩
      · unfold w44_26
        rw [wb_r2 (a := l) (b := 16) ⟨by omega, by omega⟩ (by decide), Option.bind_some, if_pos (by omega), wb_w19 hw7 ⟨by omega, by omega⟩ h16, Option.bind_some, if_pos ⟨hl, h2⟩, wb_w53y hc hs, Option.bind_some]
        exact e1
      · unfold w146_29
        rw [wb_w98 hw7 (by decide), Option.bind_some, mh, wb_r2 (a := l) (b := T (b + 11) w) ⟨by omega, by omega⟩ ⟨by omega, by omega⟩, Option.bind_some, if_pos h2, wb_w101 hw7 ⟨hl, by omega⟩, Option.bind_some, mp, wb_w102 ⟨hs.1, by omega⟩ (by decide), Option.bind_some, ms]
        exact e2
    · obtain ⟨v, e1, e2, e3, e4⟩ := ih l s hl (by omega) h7 m1 m2 (by omega) (by omega)
      exact ⟨v, e1, e2, e3, by omega⟩
theorem wb_load {T Tm : sw_T} {b : Nat} {N w : Int} (I : wb_iv T b N) (R : wb_rp T b (Tm 222)) (hw : 0 ≤ w ∧ w < T b 1) : ∃ v, w44 b T w = some v ∧ w146 Tm w = some v ∧ 0 ≤ v ∧ v ≤ 1683 := by
  have h1 : 2 ≤ T b 1 ∧ T b 1 ≤ 7 := I.2.1.2.1
  have hc := I.2.1.2.2.2.2
  have hw7 : 0 ≤ w ∧ w < 7 := ⟨hw.1, by omega⟩
  obtain ⟨-, hha, -, -, -, -, -, h16⟩ := I.2.2.1 w hw7
  have m1 : Tm 222 (8 + 9 * w + 1) = T (b + 3) w + 1 := wb_rd_hd R h1.2 hw
  unfold w44 w146
  rw [wb_w25y h1 hw, Option.bind_some, wb_r1 (a := 1) (by decide), Option.bind_some, if_neg (show ¬ (1 : Int) = 0 by decide), wb_ld (T := T) (a := b + 3) (m := 7) (j := w) hw7, Option.bind_some, wb_w98 hw7 (by decide), Option.bind_some, m1, wb_r1 (a := T (b + 3) w + 1) ⟨by omega, by omega⟩, Option.bind_some]
  rcases hha with hha | ⟨q1, q2, -, -⟩
  · obtain ⟨v, e1, e2, e3, e4⟩ := wb_w44_lo I R hw 16 0 0 (by decide) (by omega) h16.1 sw_N sw_N (by decide) (by decide)
    rw [hha, wb_w53n, Option.bind_some, e1, Option.bind_some, if_neg (by decide)]
    unfold w146_26
    rw [e2, Option.bind_some]
    exact ⟨v, rfl, rfl, e3, by omega⟩
  · have hk := (I.2.2.2.2.2.2.1 _ ⟨q1, q2⟩).1
    have ms : Tm 222 (183 + 3 * T (b + 3) w + 0) = T (b + 21) (T (b + 3) w) := wb_rd_shirt R ⟨q1, q2⟩ 21 (by decide)
    obtain ⟨v, e1, e2, e3, e4⟩ := wb_w44_lo I R hw 16 0 (T (b + 21) (T (b + 3) w)) (by decide) (by omega) h16.1 sw_N sw_N (by decide) (by decide)
    rw [wb_w53y hc ⟨q1, q2⟩, Option.bind_some, e1, Option.bind_some, if_pos (by omega), Option.bind_some, show T (b + 3) w + 1 - 1 = T (b + 3) w by omega, wb_w102 ⟨q1, by omega⟩ (by decide), Option.bind_some, ms]
    unfold w146_26
    rw [e2, Option.bind_some]
    exact ⟨v, rfl, rfl, by omega, by omega⟩
