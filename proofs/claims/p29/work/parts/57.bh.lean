/-! ===== the choice's loop; what she does in a minute ===== -/
theorem wb_w38_7 {T : sw_T} {b : Nat} {N w : Int} (I : wb_iv T b N) (hw : 0 ≤ w ∧ w < T b 1) : ∀ (k : Nat) (best m3 o : Int), 0 ≤ o → T b 1 - o ≤ k → o ≤ 7 → (best = -1 ∨ ((0 ≤ best ∧ best < T b 1) ∧ wb_cn T b best ∧ best ≠ w ∧ m3 = wb_mr T b w best)) → ∀ m, k < m → w38_7 b T w m best m3 o = some (wb_ch T b w k best o) ∧ (wb_ch T b w k best o = -1 ∨ ((0 ≤ wb_ch T b w k best o ∧ wb_ch T b w k best o < T b 1) ∧ wb_cn T b (wb_ch T b w k best o) ∧ wb_ch T b w k best o ≠ w)) := by
  have h1 : 2 ≤ T b 1 ∧ T b 1 ≤ 7 := I.2.1.2.1
  intro k
  induction k with
  | zero =>
    intro best m3 o hp hk h7 hb m hm
    obtain ⟨m, rfl⟩ : ∃ q, m = q + 1 := ⟨m - 1, by omega⟩
    unfold w38_7 wb_ch
    rw [wb_r2 ⟨by omega, by omega⟩ ⟨by omega, by omega⟩, Option.bind_some, if_neg (by omega)]
    exact ⟨rfl, hb.imp id fun h => ⟨h.1, h.2.1, h.2.2.1⟩⟩
  | succ k ih =>
    intro best m3 o hp hk h7 hb m hm
    obtain ⟨m, rfl⟩ : ∃ q, m = q + 1 := ⟨m - 1, by omega⟩
    unfold w38_7 wb_ch
    rw [wb_r2 ⟨by omega, by omega⟩ ⟨by omega, by omega⟩, Option.bind_some]
    by_cases h2 : o < T b 1
    · rw [if_pos h2, if_pos h2, wb_r2 ⟨by omega, by omega⟩ (by decide), Option.bind_some, if_pos (by omega), wb_r2 ⟨by omega, by omega⟩ ⟨by omega, by omega⟩, Option.bind_some]
      by_cases h3 : o = w
      · rw [if_pos h3, if_pos (.inl h3)]
        exact ih best m3 (o + 1) (by omega) (by omega) (by omega) hb m (by omega)
      · rw [if_neg h3]
        by_cases h4 : wb_cn T b o
        · obtain ⟨e1, e2⟩ := wb_w40 I hw ⟨hp, h2⟩ h4
          have hbr : -2147483648 ≤ best ∧ best < 2147483648 := by
            rcases hb with h | h
            · rw [h]; decide
            · exact ⟨by omega, by omega⟩
          rw [(wb_w39 I ⟨hp, h2⟩).1 h4, Option.bind_some, wb_r1 (by decide), Option.bind_some, if_neg (by decide), e1, Option.bind_some, wb_r2 hbr (by decide), Option.bind_some, if_neg (show ¬ (o = w ∨ ¬ wb_cn T b o) from fun h => h.elim h3 (fun h => h h4))]
          by_cases h5 : best = -1
          · rw [if_pos h5, if_pos (.inl h5)]
            exact ih o _ (o + 1) (by omega) (by omega) (by omega) (.inr ⟨⟨hp, h2⟩, h4, h3, rfl⟩) m (by omega)
          · rcases hb with hb | ⟨hb1, hb2, hb3, hb4⟩
            · exact absurd hb h5
            · obtain ⟨-, e3⟩ := wb_w40 I hw hb1 hb2
              rw [if_neg h5, hb4, wb_r2 ⟨by omega, by omega⟩ ⟨by omega, by omega⟩, Option.bind_some]
              by_cases h6 : wb_mr T b w best < wb_mr T b w o
              · rw [if_pos h6, if_pos (.inr h6)]
                exact ih o _ (o + 1) (by omega) (by omega) (by omega) (.inr ⟨⟨hp, h2⟩, h4, h3, rfl⟩) m (by omega)
              · rw [if_neg h6, if_neg (fun h => h.elim h5 h6)]
                exact ih best _ (o + 1) (by omega) (by omega) (by omega) (.inr ⟨hb1, hb2, hb3, rfl⟩) m (by omega)
        · rw [(wb_w39 I ⟨hp, h2⟩).2 h4, Option.bind_some, wb_r1 (by decide), Option.bind_some, if_pos rfl, if_pos (.inr h4)]
          exact ih best m3 (o + 1) (by omega) (by omega) (by omega) hb m (by omega)
    · rw [if_neg h2, if_neg h2]
      exact ⟨rfl, hb.imp id fun h => ⟨h.1, h.2.1, h.2.2.1⟩⟩
theorem wb_w115_4 {T Tm : sw_T} {b : Nat} {N w : Int} (I : wb_iv T b N) (R : wb_rp T b (Tm 222)) (hw : 0 ≤ w ∧ w < T b 1) : ∀ (k : Nat) (best o : Int), 0 ≤ o → T b 1 - o ≤ k → o ≤ 7 → (best = -1 ∨ ((0 ≤ best ∧ best < T b 1) ∧ wb_cn T b best ∧ best ≠ w)) → ∀ m, k < m → w115_4 Tm w m best o = some (wb_ch T b w k best o) := by
  have h1 : 2 ≤ T b 1 ∧ T b 1 ≤ 7 := I.2.1.2.1
  have m4 : Tm 222 4 = T b 1 := (wb_rd_sc R h1.1).2.1
  intro k
  induction k with
  | zero =>
    intro best o hp hk h7 hb m hm
    obtain ⟨m, rfl⟩ : ∃ q, m = q + 1 := ⟨m - 1, by omega⟩
    unfold w115_4 wb_ch
    rw [wb_ld (by decide), Option.bind_some, m4, wb_r2 ⟨by omega, by omega⟩ ⟨by omega, by omega⟩, Option.bind_some, if_neg (by omega)]
  | succ k ih =>
    intro best o hp hk h7 hb m hm
    obtain ⟨m, rfl⟩ : ∃ q, m = q + 1 := ⟨m - 1, by omega⟩
    unfold w115_4 wb_ch
    rw [wb_ld (by decide), Option.bind_some, m4, wb_r2 ⟨by omega, by omega⟩ ⟨by omega, by omega⟩, Option.bind_some]
    by_cases h2 : o < T b 1
    · rw [if_pos h2, if_pos h2]
      by_cases h4 : o ≠ w ∧ wb_cn T b o
      · have hbr : -2147483648 ≤ best ∧ best < 2147483648 := by
          rcases hb with h | h
          · rw [h]; decide
          · exact ⟨by omega, by omega⟩
        rw [(wb_w113 I R hw ⟨hp, h2⟩).1 h4, Option.bind_some, wb_r1 (by decide), Option.bind_some, if_neg (by decide), wb_r2 hbr (by decide), Option.bind_some, if_neg (show ¬ (o = w ∨ ¬ wb_cn T b o) from fun h => h.elim h4.1 (fun h => h h4.2))]
        by_cases h5 : best = -1
        · rw [if_pos h5, if_pos (.inl h5)]
          exact ih o (o + 1) (by omega) (by omega) (by omega) (.inr ⟨⟨hp, h2⟩, h4.2, h4.1⟩) m (by omega)
        · rcases hb with hb | ⟨hb1, hb2, hb3⟩
          · exact absurd hb h5
          · rw [if_neg h5, wb_w114 I R hw ⟨hp, h2⟩ h4.2 h4.1 hb1 hb2 hb3, Option.bind_some]
            by_cases h6 : wb_mr T b w best < wb_mr T b w o
            · rw [if_pos h6, wb_r1 (by decide), Option.bind_some, if_neg (by decide), if_pos (.inr h6)]
              exact ih o (o + 1) (by omega) (by omega) (by omega) (.inr ⟨⟨hp, h2⟩, h4.2, h4.1⟩) m (by omega)
            · rw [if_neg h6, wb_r1 (by decide), Option.bind_some, if_pos rfl, if_neg (fun h => h.elim h5 h6)]
              exact ih best (o + 1) (by omega) (by omega) (by omega) (.inr ⟨hb1, hb2, hb3⟩) m (by omega)
      · rw [(wb_w113 I R hw ⟨hp, h2⟩).2 h4, Option.bind_some, wb_r1 (by decide), Option.bind_some, if_pos rfl]
        have h5 : o = w ∨ ¬ wb_cn T b o := by
          by_cases h : o = w
          · exact .inl h
          · exact .inr fun q => h4 ⟨h, q⟩
        rw [if_pos h5]
        exact ih best (o + 1) (by omega) (by omega) (by omega) hb m (by omega)
    · rw [if_neg h2, if_neg h2]
def wb_cho (T : sw_T) (b : Nat) (w : Int) : Int := wb_ch T b w 7 (-1) 0
theorem wb_cho_ok {T Tm : sw_T} {b : Nat} {N w : Int} (I : wb_iv T b N) (R : wb_rp T b (Tm 222)) (hw : 0 ≤ w ∧ w < T b 1) : w38 b T w = some (wb_cho T b w) ∧ w115 Tm w = some (wb_cho T b w) ∧ (wb_cho T b w = -1 ∨ ((0 ≤ wb_cho T b w ∧ wb_cho T b w < T b 1) ∧ wb_cn T b (wb_cho T b w) ∧ wb_cho T b w ≠ w)) := by
  have h1 : 2 ≤ T b 1 ∧ T b 1 ≤ 7 := I.2.1.2.1
  obtain ⟨e1, e2⟩ := wb_w38_7 I hw 7 (-1) 0 0 (by decide) (by omega) (by decide) (.inl rfl) sw_N (by decide)
  have e3 := wb_w115_4 I R hw 7 (-1) 0 (by decide) (by omega) (by decide) (.inl rfl) sw_N (by decide)
  refine ⟨?_, ?_, e2⟩
  · unfold w38
    rw [e1, Option.bind_some]
    rfl
  · unfold w115
    rw [e3, Option.bind_some]
    rfl
/-- what she does in a minute -/
def wb_act (T : sw_T) (b : Nat) (w sh : Int) : sw_T :=
  if T (b + 5) w = 1 then wb_slp T b w
  else if T (b + 3) w ≠ -1 then wb_sew T b w
  else if 0 < T (b + 11) w then wb_tak (sw_up T (b + 11) w (T (b + 11) w - 1)) b w (wb_pi T b w (T (b + 11) w - 1))
  else if sh = 0 ∨ wb_cho T b w = -1 then wb_mis T b w
  else wb_tak (sw_up (wb_sh (sw_up T (b + 7) w (T (b + 7) w + 1)) b (wb_cho T b w)) (b + 11) (wb_cho T b w) (T (b + 11) (wb_cho T b w) - 1)) b w (wb_pi T b (wb_cho T b w) 0)
theorem wb_act_c {T Tm : sw_T} {b : Nat} {N w sh : Int} (I : wb_iv T b N) (R : wb_rp T b (Tm 222)) (hw : 0 ≤ w ∧ w < T b 1) (hsh : (sh = 1 ∧ Tm 221 9 = 0) ∨ (sh = 0 ∧ Tm 221 9 = 1)) : (∃ r, w34 b T w sh = some r ∧ wb_rg r.1 ∧ ((r.1 = -1 ∧ r.2 = wb_act T b w sh) ∨ (r.1 ≠ -1 ∧ w37 b r.2 w r.1 = some (wb_act T b w sh)))) ∧ ∃ Tm1, w118 Tm w = some Tm1 ∧ wb_rp (wb_act T b w sh) b (Tm1 222) ∧ wb_fm Tm Tm1 := by
  obtain ⟨-, ⟨-, h1, -, -, hc⟩, hse, -, hpi, -, -, -⟩ := id I
  have hw7 : 0 ≤ w ∧ w < 7 := ⟨hw.1, by omega⟩
  obtain ⟨-, hha, -, has, -, -, -, h16⟩ := hse w hw7
  obtain ⟨ch1, ch2, ch3⟩ := wb_cho_ok I R hw
  have m3 : Tm 222 (8 + 9 * w + 3) = T (b + 5) w := wb_rd_st R h1.2 hw 5 (by decide)
  have m1 : Tm 222 (8 + 9 * w + 1) = T (b + 3) w + 1 := wb_rd_hd R h1.2 hw
  have m8 : Tm 222 (8 + 9 * w + 8) = T (b + 11) w := wb_rd_hgt R h1.2 hw
  have hchr : -1 ≤ wb_cho T b w ∧ wb_cho T b w < 7 := by
    rcases ch3 with h | h
    · rw [h]; decide
    · exact ⟨by omega, by omega⟩
  -- the reference's pile to take from
  have hs0 : ∃ s0 : Int, w118 Tm w = w118_16 Tm w s0 ∧ s0 = (if sh = 0 then -1 else wb_cho T b w) := by
    unfold w118
    rcases hsh with ⟨rfl, h⟩ | ⟨rfl, h⟩
    · refine ⟨wb_cho T b w, ?_, (if_neg (by decide)).symm⟩
      rw [h, wb_r1 (by decide), Option.bind_some, if_pos rfl, ch2, Option.bind_some]
    · refine ⟨-1, ?_, (if_pos rfl).symm⟩
      rw [h, wb_r1 (by decide), Option.bind_some, if_neg (by decide)]
  obtain ⟨s0, es, hs0⟩ := hs0
  rw [es]
  unfold w34 w118_16 wb_act
  rw [wb_w25y h1 hw, Option.bind_some, wb_r1 (by decide), Option.bind_some, if_neg (by decide), wb_ld hw7, Option.bind_some, wb_r1 ⟨by omega, by omega⟩, Option.bind_some, wb_w98 hw7 (by decide), Option.bind_some, m3, wb_r2 ⟨by omega, by omega⟩ (by decide), Option.bind_some]
  by_cases hA : T (b + 5) w = 1
  · rw [if_neg (show ¬ T (b + 5) w = 0 by omega), if_pos hA, if_pos hA, wb_ld hw7, Option.bind_some, wb_st hw7, Option.bind_some]
    obtain ⟨Tm1, e1, e2, e3⟩ := wb_slp_ok R h1 hw
    refine ⟨⟨_, rfl, by show -2147483648 ≤ (-1 : Int) ∧ (-1 : Int) < 2147483648; decide, .inl ⟨rfl, rfl⟩⟩, Tm1, ?_, e2, e3⟩
    rw [e1, Option.bind_some]
  · rw [if_pos (show T (b + 5) w = 0 by omega), if_neg hA, if_neg hA, wb_ld hw7, Option.bind_some, wb_r2 ⟨by omega, by omega⟩ (by decide), Option.bind_some, wb_w98 hw7 (by decide), Option.bind_some, m1, wb_r1 (a := T (b + 3) w + 1) ⟨by omega, by omega⟩, Option.bind_some]
    by_cases hB : T (b + 3) w = -1
    · rw [if_pos hB, if_neg (show ¬ 0 < T (b + 3) w + 1 by omega), if_neg (show ¬ T (b + 3) w ≠ -1 from fun h => h hB), wb_w18 hw7, Option.bind_some, wb_r1 (a := T (b + 11) w) ⟨by omega, by omega⟩, Option.bind_some, wb_w98 hw7 (by decide), Option.bind_some, m8, wb_r1 (a := T (b + 11) w) ⟨by omega, by omega⟩, Option.bind_some]
      by_cases hC : 0 < T (b + 11) w
      · rw [if_pos hC, if_pos hC, if_pos hC]
        obtain ⟨T0, e1, rfl, e2, Tm1, e3, e4, e5⟩ := wb_near_ok I R hw (by omega)
        obtain ⟨q1, -, -⟩ := hpi w (T (b + 11) w - 1) hw7 ⟨by omega, by omega⟩
        rw [e1, Option.bind_some, e3, Option.bind_some]
        refine ⟨⟨_, rfl, ?_, .inr ⟨?_, e2⟩⟩, Tm1, rfl, e4, e5⟩
        · unfold wb_rg
          dsimp only
          omega
        · dsimp only
          omega
      · rw [if_neg hC, if_neg hC, if_neg hC]
        have hmis := wb_mis_ok I R hw
        by_cases hD : sh = 0 ∨ wb_cho T b w = -1
        · have hs1 : s0 = -1 := by
            rw [hs0]
            rcases hD with h | h
            · rw [if_pos h]
            · split
              · rfl
              · exact h
          obtain ⟨e0, Tm1, e1, e2, e3⟩ := hmis
          have ec : w34_81 b T w (-1) = some (-1, wb_mis T b w) := by
            unfold w34_81
            rw [wb_r2 (by decide) (by decide), Option.bind_some, if_pos rfl, e0, Option.bind_some]
          rw [if_pos hD, hs1, wb_r2 (by decide) (by decide), Option.bind_some, if_pos rfl, e1, Option.bind_some]
          refine ⟨⟨(-1, wb_mis T b w), ?_, by show -2147483648 ≤ (-1 : Int) ∧ (-1 : Int) < 2147483648; decide, .inl ⟨rfl, rfl⟩⟩, Tm1, rfl, e2, e3⟩
          rcases hsh with ⟨rfl, -⟩ | ⟨rfl, -⟩
          · rw [wb_r1 (by decide), Option.bind_some, if_neg (by decide), ch1, Option.bind_some]
            rcases hD with h | h
            · exact absurd h (by decide)
            · rw [h]
              exact ec
          · rw [wb_r1 (by decide), Option.bind_some, if_pos rfl]
            exact ec
        · have hsh1 : sh = 1 := by omega
          rcases ch3 with h | ⟨h3, h4, h5⟩
          · exact absurd (.inr h) hD
          · have hoh : 1 ≤ T (b + 11) (wb_cho T b w) := by unfold wb_cn at h4; omega
            obtain ⟨T0, rfl, e1, e2, Tm1, e3, e4, e5⟩ := wb_far_ok I R hw (by omega) h3 hoh
            obtain ⟨q1, -, -⟩ := hpi (wb_cho T b w) 0 ⟨h3.1, by omega⟩ ⟨by omega, by omega⟩
            have hs1 : s0 = wb_cho T b w := by rw [hs0, if_neg (by omega)]
            rw [if_neg hD, hs1, wb_r2 ⟨by omega, by omega⟩ (by decide), Option.bind_some, if_neg (show ¬ wb_cho T b w = -1 by omega), e3, Option.bind_some, hsh1, wb_r1 (a := 1) (by decide), Option.bind_some, if_neg (show ¬ (1 : Int) = 0 by decide), ch1, Option.bind_some, e1]
            refine ⟨⟨_, rfl, ?_, .inr ⟨?_, e2⟩⟩, Tm1, rfl, e4, e5⟩
            · unfold wb_rg
              dsimp only
              omega
            · dsimp only
              omega
    · rw [if_neg hB, if_pos (show 0 < T (b + 3) w + 1 by omega), if_pos hB]
      obtain ⟨e0, Tm1, e1, e2, e3⟩ := wb_sew_ok I R hw hB
      rw [e0, Option.bind_some, e1, Option.bind_some]
      exact ⟨⟨_, rfl, by show -2147483648 ≤ (-1 : Int) ∧ (-1 : Int) < 2147483648; decide, .inl ⟨rfl, rfl⟩⟩, Tm1, rfl, e2, e3⟩
