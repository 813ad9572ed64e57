/-! ===== a minute's acts: class and reference alike ===== -/
theorem wb_up_id {T : sw_T} {a : Nat} {k v : Int} (h : T a k = v) : sw_up T a k v = T := by
  funext a' i
  rw [wb_rdu]
  split
  · rename_i ha
    split
    · rename_i hi
      rw [ha, hi, h]
    · rw [ha]
  · rfl
theorem wb_m {T : sw_T} {k v : Int} : sw_up T 222 k v 222 = sw_ui (T 222) k v := sw_up_eq
/-- she sews -/
def wb_sew (T : sw_T) (b : Nat) (w : Int) : sw_T :=
  if 0 < T (b + 21) (T (b + 3) w) - T (b + 2) w then sw_up T (b + 21) (T (b + 3) w) (T (b + 21) (T (b + 3) w) - T (b + 2) w)
  else sw_up (sw_up (sw_up (sw_up (sw_up T (b + 21) (T (b + 3) w) 0) (b + 22) (T (b + 3) w) 2) (b + 23) (T (b + 3) w) w) (b + 3) w (-1)) (b + 6) w (T (b + 6) w + 1)
theorem wb_sew_ok {T Tm : sw_T} {b : Nat} {N w : Int} (I : wb_iv T b N) (R : wb_rp T b (Tm 222)) (hw : 0 ≤ w ∧ w < T b 1) (hh : T (b + 3) w ≠ -1) : w35 b T w = some (wb_sew T b w) ∧ ∃ Tm1, w116 Tm w = some Tm1 ∧ wb_rp (wb_sew T b w) b (Tm1 222) ∧ wb_fm Tm Tm1 := by
  obtain ⟨-, ⟨-, h1, -, -, hc⟩, hse, -, -, -, hsh, -⟩ := id I
  have hw7 : 0 ≤ w ∧ w < 7 := ⟨hw.1, by omega⟩
  obtain ⟨hsp, hha, -, -, -, -, -, -⟩ := hse w hw7
  rcases hha with hha | ⟨hs1, hs2, hs3, hs4⟩
  · exact absurd hha hh
  obtain ⟨⟨hk1, hk2⟩, -, -⟩ := hsh _ ⟨hs1, hs2⟩
  have hs : 0 ≤ T (b + 3) w ∧ T (b + 3) w < 120 := ⟨hs1, by omega⟩
  -- the reference's reads
  have m1 : Tm 222 (8 + 9 * w + 1) = T (b + 3) w + 1 := wb_rd_seat R h1.2 hw 3 (by decide)
  have m0 : Tm 222 (8 + 9 * w + 0) = T (b + 2) w := (wb_rd_seat R h1.2 hw 2 (by decide)).trans (Int.add_zero _)
  have m4 : Tm 222 (8 + 9 * w + 4) = T (b + 6) w := (wb_rd_seat R h1.2 hw 6 (by decide)).trans (Int.add_zero _)
  have ms : Tm 222 (183 + 3 * T (b + 3) w + 0) = T (b + 21) (T (b + 3) w) := wb_rd_shirt R ⟨hs1, hs2⟩ 21 (by decide)
  have r1 := wb_up_shirt R hs1 (v := if 0 < T (b + 21) (T (b + 3) w) - T (b + 2) w then T (b + 21) (T (b + 3) w) - T (b + 2) w else 0) 21 (by decide)
  constructor
  · unfold w35 wb_sew
    rw [wb_w25y h1 hw, Option.bind_some, wb_r1 (by decide), Option.bind_some, if_neg (by decide), wb_ld ⟨hw.1, by omega⟩, Option.bind_some, wb_w53y hc ⟨hs1, hs2⟩, Option.bind_some, wb_ld ⟨hw.1, by omega⟩, Option.bind_some, wb_r1 ⟨by omega, by omega⟩, Option.bind_some]
    by_cases hl : 0 < T (b + 21) (T (b + 3) w) - T (b + 2) w
    · rw [if_pos hl, if_pos hl]
      unfold w35_46
      rw [wb_w54 hc ⟨hs1, hs2⟩, Option.bind_some, wb_r1 ⟨by omega, by omega⟩, Option.bind_some, if_pos hl]
    · rw [if_neg hl, if_neg hl]
      unfold w35_46
      have hc' : 0 ≤ sw_up T (b + 21) (T (b + 3) w) 0 (b + 20) 0 ∧ sw_up T (b + 21) (T (b + 3) w) 0 (b + 20) 0 ≤ 120 := by rw [sw_up_ne (by omega)]; exact hc
      have hs' : 0 ≤ T (b + 3) w ∧ T (b + 3) w < sw_up T (b + 21) (T (b + 3) w) 0 (b + 20) 0 := by rw [sw_up_ne (by omega)]; exact ⟨hs1, hs2⟩
      rw [wb_w54 hc ⟨hs1, hs2⟩, Option.bind_some, wb_r1 ⟨by omega, by omega⟩, Option.bind_some, if_neg hl, wb_w55 hc' hs', Option.bind_some, wb_st ⟨hw.1, by omega⟩, Option.bind_some, wb_ld ⟨hw.1, by omega⟩, Option.bind_some, wb_st ⟨hw.1, by omega⟩, Option.bind_some]
      simp [wb_rdu]
  · unfold w116 wb_sew
    rw [wb_w98 hw7 (by decide), Option.bind_some, m1, show T (b + 3) w + 1 - 1 = T (b + 3) w by omega, wb_w102 hs (by decide), Option.bind_some, ms, wb_w98 hw7 (by decide), Option.bind_some, m0, wb_r1 ⟨by omega, by omega⟩, Option.bind_some]
    by_cases hl : 0 < T (b + 21) (T (b + 3) w) - T (b + 2) w
    · rw [if_pos hl, if_neg (by omega)]
      rw [if_pos hl] at r1
      unfold w116_35
      rw [wb_w103 hs (by decide), Option.bind_some, wb_r1 ⟨by omega, by omega⟩, Option.bind_some, if_pos hl]
      exact ⟨_, rfl, by rw [wb_m]; exact r1, wb_fm.rf.up⟩
    · rw [if_neg hl]
      rw [if_neg hl] at r1
      have e0 : (if T (b + 21) (T (b + 3) w) - T (b + 2) w < 0 then w116_35 Tm w (T (b + 3) w) (T (b + 21) (T (b + 3) w) - T (b + 2) w) (T (b + 3) w) 0 0 else w116_35 Tm w (T (b + 3) w) (T (b + 21) (T (b + 3) w) - T (b + 2) w) (T (b + 3) w) 0 (T (b + 21) (T (b + 3) w) - T (b + 2) w)) = w116_35 Tm w (T (b + 3) w) (T (b + 21) (T (b + 3) w) - T (b + 2) w) (T (b + 3) w) 0 0 := by
        split
        · rfl
        · rw [show T (b + 21) (T (b + 3) w) - T (b + 2) w = 0 by omega]
      rw [e0]
      unfold w116_35
      rw [wb_w103 hs (by decide), Option.bind_some, wb_r1 ⟨by omega, by omega⟩, Option.bind_some, if_neg hl, wb_w103 hs (by decide), Option.bind_some, wb_w99 hw7 (by decide), Option.bind_some, wb_w100 hw7 (by decide), Option.bind_some]
      refine ⟨_, rfl, ?_, wb_fm.rf.up.up.up.up⟩
      have r2 := wb_up_shirt r1 hs1 (v := 2) 22 (by decide)
      have r3 : wb_rp (sw_up (sw_up (sw_up T (b + 21) (T (b + 3) w) 0) (b + 22) (T (b + 3) w) 2) (b + 23) (T (b + 3) w) w) b (sw_ui (sw_ui (Tm 222) (183 + 3 * T (b + 3) w + 0) 0) (183 + 3 * T (b + 3) w + 1) 2) := by
        rw [wb_up_id (T := sw_up (sw_up T (b + 21) (T (b + 3) w) 0) (b + 22) (T (b + 3) w) 2) (by rw [sw_up_ne (by omega), sw_up_ne (by omega)]; exact hs4)]
        exact r2
      have r4 := wb_up_hd r3 hw7 (v := -1)
      have r5 := wb_up_st r4 hw7 (v := T (b + 6) w + 1) 6 (by decide)
      rw [wb_m, wb_m, wb_m, wb_m]
      have e4 : sw_ui (sw_ui (sw_ui (Tm 222) (183 + 3 * T (b + 3) w + 0) 0) (183 + 3 * T (b + 3) w + 1) 2) (8 + 9 * w + 1) 0 (8 + 9 * w + 4) = T (b + 6) w := by
        unfold sw_ui
        rw [if_neg (by omega), if_neg (by omega), if_neg (by omega)]
        exact m4
      rw [e4]
      exact r5
/-- she sleeps -/
def wb_slp (T : sw_T) (b : Nat) (w : Int) : sw_T := sw_up T (b + 8) w (T (b + 8) w + 1)
theorem wb_slp_ok {T Tm : sw_T} {b : Nat} {w : Int} (R : wb_rp T b (Tm 222)) (h1 : 2 ≤ T b 1 ∧ T b 1 ≤ 7) (hw : 0 ≤ w ∧ w < T b 1) : ∃ Tm1, w100 Tm w 6 = some Tm1 ∧ wb_rp (wb_slp T b w) b (Tm1 222) ∧ wb_fm Tm Tm1 := by
  have hw7 : 0 ≤ w ∧ w < 7 := ⟨hw.1, by omega⟩
  have m8 : Tm 222 (8 + 9 * w + 6) = T (b + 8) w := wb_rd_st R h1.2 hw 8 (by decide)
  rw [wb_w100 hw7 (by decide), m8]
  exact ⟨_, rfl, by rw [wb_m]; exact wb_up_st R hw7 8 (by decide), wb_fm.rf.up⟩
/-- she misses -/
def wb_mis (T : sw_T) (b : Nat) (w : Int) : sw_T :=
  if T (b + 4) w + 1 < T (b + 1) 2 then sw_up (sw_up T (b + 9) w (T (b + 9) w + 1)) (b + 4) w (T (b + 4) w + 1)
  else sw_up (sw_up (sw_up (sw_up T (b + 9) w (T (b + 9) w + 1)) (b + 4) w (T (b + 4) w + 1)) (b + 5) w 1) (b + 4) w 0
theorem sw_ui_cm {f : Int → Int} {i j u v : Int} (h : i ≠ j) : sw_ui (sw_ui f i u) j v = sw_ui (sw_ui f j v) i u := by
  funext k
  unfold sw_ui
  by_cases h1 : k = j
  · rw [if_pos h1, if_neg (by omega), if_pos h1]
  · rw [if_neg h1]
    by_cases h2 : k = i
    · rw [if_pos h2, if_pos h2]
    · rw [if_neg h2, if_neg h2, if_neg h1]
theorem wb_mis_ok {T Tm : sw_T} {b : Nat} {N w : Int} (I : wb_iv T b N) (R : wb_rp T b (Tm 222)) (hw : 0 ≤ w ∧ w < T b 1) : w36 b T w = some (wb_mis T b w) ∧ ∃ Tm1, w117 Tm w = some Tm1 ∧ wb_rp (wb_mis T b w) b (Tm1 222) ∧ wb_fm Tm Tm1 := by
  obtain ⟨⟨-, -, ht⟩, ⟨-, h1, -, -, hc⟩, hse, -, -, -, hsh, -⟩ := id I
  have hw7 : 0 ≤ w ∧ w < 7 := ⟨hw.1, by omega⟩
  obtain ⟨-, -, hmi, -, -, -, -, -⟩ := hse w hw7
  have m2 : Tm 222 (8 + 9 * w + 2) = T (b + 4) w := wb_rd_st R h1.2 hw 4 (by decide)
  have m7 : Tm 222 (8 + 9 * w + 7) = T (b + 9) w := wb_rd_st R h1.2 hw 9 (by decide)
  have ms : Tm 222 2 = T (b + 1) 2 := wb_rd_set R h1.1 (by decide)
  constructor
  · unfold w36 wb_mis
    rw [wb_w25y h1 hw, Option.bind_some, wb_r1 (by decide), Option.bind_some, if_neg (by decide), wb_ld ⟨hw.1, by omega⟩, Option.bind_some, wb_st ⟨hw.1, by omega⟩, Option.bind_some, wb_ld ⟨hw.1, by omega⟩, Option.bind_some, wb_st ⟨hw.1, by omega⟩, Option.bind_some, wb_ld ⟨hw.1, by omega⟩, Option.bind_some, wb_ld (by decide), Option.bind_some]
    simp only [wb_rdu, show ¬ b + 4 = b + 9 by omega, show ¬ b + 1 = b + 4 by omega, show ¬ b + 1 = b + 9 by omega, if_true, if_false]
    rw [wb_r2 ⟨by omega, by omega⟩ ⟨by omega, by omega⟩, Option.bind_some]
    by_cases hl : T (b + 4) w + 1 < T (b + 1) 2
    · rw [if_pos hl, if_pos hl]
    · rw [if_neg hl, if_neg hl, wb_sb ⟨hw.1, by omega⟩ (.inr rfl), Option.bind_some, wb_st ⟨hw.1, by omega⟩, Option.bind_some]
  · have r1 := wb_up_st R hw7 (v := T (b + 9) w + 1) 9 (by decide)
    have r2 := wb_up_st r1 hw7 (v := T (b + 4) w + 1) 4 (by decide)
    have r2' : wb_rp (sw_up (sw_up T (b + 9) w (T (b + 9) w + 1)) (b + 4) w (T (b + 4) w + 1)) b (sw_ui (sw_ui (Tm 222) (8 + 9 * w + 2) (T (b + 4) w + 1)) (8 + 9 * w + 7) (T (b + 9) w + 1)) := by
      rw [sw_ui_cm (by omega)]
      exact r2
    unfold w117 wb_mis
    rw [wb_w100 hw7 (by decide), Option.bind_some, wb_w100 hw7 (by decide), Option.bind_some, wb_w98 hw7 (by decide), Option.bind_some, wb_ld (by decide), Option.bind_some]
    simp only [wb_rdu, if_true, m2, m7, ms, show ¬ 8 + 9 * w + 7 = 8 + 9 * w + 2 by omega, show ¬ 8 + 9 * w + 2 = 8 + 9 * w + 7 by omega, show ¬ (2 : Int) = 8 + 9 * w + 2 by omega, show ¬ (2 : Int) = 8 + 9 * w + 7 by omega, if_false]
    rw [wb_r2 ⟨by omega, by omega⟩ ⟨by omega, by omega⟩, Option.bind_some]
    by_cases hl : T (b + 4) w + 1 < T (b + 1) 2
    · rw [if_pos hl, if_pos hl]
      exact ⟨_, rfl, by rw [wb_m, wb_m]; exact r2', wb_fm.rf.up.up⟩
    · rw [if_neg hl, if_neg hl, wb_w99 hw7 (by decide), Option.bind_some, wb_w99 hw7 (by decide), Option.bind_some]
      have r3 := wb_up_st r2' hw7 (v := 1) 5 (by decide)
      have r4 := wb_up_st r3 hw7 (v := 0) 4 (by decide)
      exact ⟨_, rfl, by rw [wb_m, wb_m, wb_m, wb_m]; exact r4, wb_fm.rf.up.up.up.up⟩
