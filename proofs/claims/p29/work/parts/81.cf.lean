/-! ===== until all is done; what is tried ===== -/
theorem wb_s7_full {f : Int → Int} {n : Int} (h1 : 2 ≤ n ∧ n ≤ 7) (h01 : ∀ w, 0 ≤ w ∧ w < 7 → f w = 0 ∨ f w = 1) (h0 : ∀ w, n ≤ w ∧ w < 7 → f w = 0) (hs : wb_s7 f = n) : ∀ w, 0 ≤ w ∧ w < n → f w = 1 := by
  have hle : ∀ i, 0 ≤ i ∧ i < 7 → f i ≤ (if i < n then 1 else 0) := fun i hi => by
    by_cases h : i < n
    · rw [if_pos h]
      have := h01 i hi
      omega
    · rw [if_neg h, h0 i ⟨by omega, hi.2⟩]
      exact Int.le_refl _
  have hg : wb_s7 (fun i => if i < n then 1 else 0) = n := by
    have e : n = 2 ∨ n = 3 ∨ n = 4 ∨ n = 5 ∨ n = 6 ∨ n = 7 := by omega
    rcases e with rfl | rfl | rfl | rfl | rfl | rfl <;> rfl
  have a0 := hle 0 (by decide)
  have a1 := hle 1 (by decide)
  have a2 := hle 2 (by decide)
  have a3 := hle 3 (by decide)
  have a4 := hle 4 (by decide)
  have a5 := hle 5 (by decide)
  have a6 := hle 6 (by decide)
  have hs' : f 0 + f 1 + f 2 + f 3 + f 4 + f 5 + f 6 = n := hs
  have hg' : (if (0 : Int) < n then (1 : Int) else 0) + (if (1 : Int) < n then (1 : Int) else 0) + (if (2 : Int) < n then (1 : Int) else 0) + (if (3 : Int) < n then (1 : Int) else 0) + (if (4 : Int) < n then (1 : Int) else 0) + (if (5 : Int) < n then (1 : Int) else 0) + (if (6 : Int) < n then (1 : Int) else 0) = n := hg
  generalize (if (0 : Int) < n then (1 : Int) else 0) = g0 at a0 hg'
  generalize (if (1 : Int) < n then (1 : Int) else 0) = g1 at a1 hg'
  generalize (if (2 : Int) < n then (1 : Int) else 0) = g2 at a2 hg'
  generalize (if (3 : Int) < n then (1 : Int) else 0) = g3 at a3 hg'
  generalize (if (4 : Int) < n then (1 : Int) else 0) = g4 at a4 hg'
  generalize (if (5 : Int) < n then (1 : Int) else 0) = g5 at a5 hg'
  generalize (if (6 : Int) < n then (1 : Int) else 0) = g6 at a6 hg'
  intro w hw
  have hw2 := hle w ⟨hw.1, by omega⟩
  have hb := h01 w ⟨hw.1, by omega⟩
  rcases hb with hb | hb
  · exfalso
    have key : ∀ i, 0 ≤ i ∧ i < n → f i = 0 → False := fun i hi hf => by
      have hgi : ∀ j, 0 ≤ j ∧ j < 7 → f j ≤ (if j < n ∧ j ≠ i then 1 else 0) := fun j hj => by
        by_cases h : j < n ∧ j ≠ i
        · rw [if_pos h]
          have := h01 j hj
          omega
        · rw [if_neg h]
          by_cases hji : j = i
          · rw [hji, hf]
            exact Int.le_refl _
          · rw [h0 j ⟨by omega, hj.2⟩]
            exact Int.le_refl _
      have c0 := hgi 0 (by decide)
      have c1 := hgi 1 (by decide)
      have c2 := hgi 2 (by decide)
      have c3 := hgi 3 (by decide)
      have c4 := hgi 4 (by decide)
      have c5 := hgi 5 (by decide)
      have c6 := hgi 6 (by decide)
      have e : n = 2 ∨ n = 3 ∨ n = 4 ∨ n = 5 ∨ n = 6 ∨ n = 7 := by omega
      have ei : i = 0 ∨ i = 1 ∨ i = 2 ∨ i = 3 ∨ i = 4 ∨ i = 5 ∨ i = 6 := by omega
      rcases ei with rfl | rfl | rfl | rfl | rfl | rfl | rfl <;> rcases e with rfl | rfl | rfl | rfl | rfl | rfl <;> simp at c0 c1 c2 c3 c4 c5 c6 hi <;> omega
    exact key w hw hb
  · exact hb
/-- what sleepers leave -/
def wb_qt (b : Nat) (T T1 : sw_T) : Prop := T1 (b + 5) = T (b + 5) ∧ T1 (b + 6) = T (b + 6) ∧ T1 (b + 20) = T (b + 20) ∧ T1 b 1 = T b 1
theorem wb_acts_sl {b : Nat} {sh : Int} : ∀ (k : Nat) (l N : Int) (T Tm : sw_T), wb_iv T b N → wb_rp T b (Tm 222) → ((sh = 1 ∧ Tm 221 9 = 0) ∨ (sh = 0 ∧ Tm 221 9 = 1)) → (∀ w, 0 ≤ w ∧ w < T b 1 → T (b + 5) w = 1) → 0 ≤ l → T b 1 - l ≤ k → l ≤ 7 → ∀ m2, k < m2 → ∃ T1 Tm1, w119_2 m2 Tm l = some Tm1 ∧ wb_iv T1 b (N + k) ∧ wb_rp T1 b (Tm1 222) ∧ wb_fm Tm Tm1 ∧ wb_qt b T T1 ∧ T1 b 0 = T b 0 := by
  intro k
  induction k with
  | zero =>
    intro l N T Tm I R hs ha hl hk h7 m2 h2
    obtain ⟨m2, rfl⟩ : ∃ q, m2 = q + 1 := ⟨m2 - 1, by omega⟩
    have hst : 2 ≤ T b 1 ∧ T b 1 ≤ 7 := I.2.1.2.1
    have m4 : Tm 222 4 = T b 1 := (wb_rd_sc R hst.1).2.1
    unfold w119_2
    rw [wb_ld (by decide), Option.bind_some, m4, wb_r2 ⟨by omega, by omega⟩ ⟨by omega, by omega⟩, Option.bind_some, if_neg (by omega)]
    exact ⟨T, Tm, rfl, wb_iv_le I (by omega), R, wb_fm.rf, ⟨rfl, rfl, rfl, rfl⟩, rfl⟩
  | succ k ih =>
    intro l N T Tm I R hs ha hl hk h7 m2 h2
    obtain ⟨m2, rfl⟩ : ∃ q, m2 = q + 1 := ⟨m2 - 1, by omega⟩
    have hst : 2 ≤ T b 1 ∧ T b 1 ≤ 7 := I.2.1.2.1
    have m4 : Tm 222 4 = T b 1 := (wb_rd_sc R hst.1).2.1
    unfold w119_2
    rw [wb_ld (by decide), Option.bind_some, m4, wb_r2 (a := l) (b := T b 1) ⟨by omega, by omega⟩ ⟨by omega, by omega⟩, Option.bind_some]
    by_cases h3 : l < T b 1
    · obtain ⟨-, Tm1, e4, e5, e6⟩ := wb_act_c (sh := sh) I R ⟨hl, h3⟩ hs
      have J := wb_act_iv (sh := sh) I R ⟨hl, h3⟩
      have hsl : wb_act T b l sh = wb_slp T b l := by
        unfold wb_act
        rw [if_pos (by have := ha l ⟨hl, h3⟩; omega)]
      rw [hsl] at e5 J
      have q1 : wb_qt b T (wb_slp T b l) := by
        unfold wb_slp
        exact ⟨sw_up_ne (by omega), sw_up_ne (by omega), sw_up_ne (by omega), by rw [sw_up_ne (by omega)]⟩
      have q0 : wb_slp T b l b 0 = T b 0 := by
        unfold wb_slp
        rw [sw_up_ne (by omega)]
      obtain ⟨T2, Tm2, g2, g3, g4, g6, g7, g8⟩ := ih (l + 1) (N + 1) _ Tm1 J e5 (by rw [e6 221 (by decide)]; exact hs) (by rw [q1.2.2.2, q1.1]; exact ha) (by omega) (by rw [q1.2.2.2]; omega) (by omega) m2 (by omega)
      refine ⟨T2, Tm2, ?_, wb_iv_le g3 (by omega), g4, wb_fm.tr e6 g6, ⟨g7.1.trans q1.1, g7.2.1.trans q1.2.1, g7.2.2.1.trans q1.2.2.1, g7.2.2.2.trans q1.2.2.2⟩, g8.trans q0⟩
      rw [if_pos h3, e4, Option.bind_some]
      exact g2
    · rw [if_neg h3]
      exact ⟨T, Tm, rfl, wb_iv_le I (by omega), R, wb_fm.rf, ⟨rfl, rfl, rfl, rfl⟩, rfl⟩
theorem wb_minute_sl {b : Nat} {sh N : Int} {T Tm : sw_T} (I : wb_iv T b N) (R : wb_rp T b (Tm 222)) (hs : (sh = 1 ∧ Tm 221 9 = 0) ∨ (sh = 0 ∧ Tm 221 9 = 1)) (ha : ∀ w, 0 ≤ w ∧ w < T b 1 → T (b + 5) w = 1) : ∃ T1 Tm1, w119 Tm = some Tm1 ∧ wb_iv T1 b (N + 8) ∧ wb_rp T1 b (Tm1 222) ∧ wb_fm Tm Tm1 ∧ wb_qt b T T1 := by
  have hst : 2 ≤ T b 1 ∧ T b 1 ≤ 7 := I.2.1.2.1
  have hm0 := I.2.1.1
  obtain ⟨T1, Tm1, e2, e3, e4, e6, e7, h0⟩ := wb_acts_sl 7 0 N T Tm I R hs ha (by decide) (by omega) (by decide) sw_N (by decide)
  have m3 : Tm1 222 3 = T1 b 0 := (wb_rd_sc e4 (by rw [e7.2.2.2]; exact hst.1)).1
  refine ⟨sw_up T1 b 0 (T1 b 0 + 1), sw_up Tm1 222 3 (T1 b 0 + 1), ?_, wb_iv_min (wb_iv_le e3 (by omega)) (by omega), by rw [wb_m]; exact wb_up_min e4, e6.up, ⟨?_, ?_, ?_, ?_⟩⟩
  · unfold w119
    rw [e2, Option.bind_some, wb_ld (by decide), Option.bind_some, wb_st (by decide), Option.bind_some, m3]
  · rw [sw_up_ne (by omega)]; exact e7.1
  · rw [sw_up_ne (by omega)]; exact e7.2.1
  · rw [sw_up_ne (by omega)]; exact e7.2.2.1
  · rw [wb_rdu, if_pos rfl, if_neg (by decide)]; exact e7.2.2.2
/-- the end of the reference's search -/
def wb_fin (Tm : sw_T) (l v : Int) : Prop := ((w123 Tm 2).bind fun r14 => (sw_ld Tm 222 543 5).bind fun v16 => (sw_r2 r14 v16).bind fun _u => if r14 = v16 then some (l, Tm) else some ((-1), Tm)) = some (v, Tm)
theorem wb_fin_n {T Tm : sw_T} {b : Nat} {N l : Int} (I : wb_iv T b N) (R : wb_rp T b (Tm 222)) (h : wb_s7 (T (b + 6)) ≠ T (b + 20) 0) : wb_fin Tm l (-1) := by
  have h1 : 2 ≤ T b 1 ∧ T b 1 ≤ 7 := I.2.1.2.1
  have hc := I.2.1.2.2.2.2
  have b1 := wb_s7_sewn I
  have j3 := I.2.2.2.2.2.2.2.2.2.1
  have m5 : Tm 222 5 = T (b + 20) 0 := (wb_rd_sc R h1.1).2.2.1
  unfold wb_fin
  rw [wb_w123 I R (by decide), Option.bind_some, wb_ld (by decide), Option.bind_some, m5, j3, wb_r2 ⟨by omega, by omega⟩ ⟨by omega, by omega⟩, Option.bind_some, if_neg h]
theorem wb_fin_y {T Tm : sw_T} {b : Nat} {N l : Int} (I : wb_iv T b N) (R : wb_rp T b (Tm 222)) (h : wb_s7 (T (b + 6)) = T (b + 20) 0) : wb_fin Tm l l := by
  have h1 : 2 ≤ T b 1 ∧ T b 1 ≤ 7 := I.2.1.2.1
  have hc := I.2.1.2.2.2.2
  have b1 := wb_s7_sewn I
  have j3 := I.2.2.2.2.2.2.2.2.2.1
  have m5 : Tm 222 5 = T (b + 20) 0 := (wb_rd_sc R h1.1).2.2.1
  unfold wb_fin
  rw [wb_w123 I R (by decide), Option.bind_some, wb_ld (by decide), Option.bind_some, m5, j3, wb_r2 ⟨by omega, by omega⟩ ⟨by omega, by omega⟩, Option.bind_some, if_pos h]
/-- all asleep: the reference goes on to the end, and nothing more is sewn -/
theorem wb_sl_2 {b : Nat} {sh : Int} : ∀ (k : Nat) (l N : Int) (T Tm : sw_T), wb_iv T b N → wb_rp T b (Tm 222) → ((sh = 1 ∧ Tm 221 9 = 0) ∨ (sh = 0 ∧ Tm 221 9 = 1)) → (∀ w, 0 ≤ w ∧ w < T b 1 → T (b + 5) w = 1) → wb_s7 (T (b + 6)) ≠ T (b + 20) 0 → 0 ≤ l → l ≤ 2000 → 2000 - l ≤ k → ∀ m, k < m → ∃ Tm1 l1, w155_2 m Tm l = some (Tm1, l1) ∧ wb_fin Tm1 l1 (-1) ∧ wb_fm Tm Tm1 := by
  intro k
  induction k with
  | zero =>
    intro l N T Tm I R hs ha hne hl h2 hk m hm
    obtain ⟨m, rfl⟩ : ∃ q, m = q + 1 := ⟨m - 1, by omega⟩
    refine ⟨Tm, l, ?_, wb_fin_n I R hne, wb_fm.rf⟩
    unfold w155_2
    rw [wb_r2 ⟨by omega, by omega⟩ (by decide), Option.bind_some, if_neg (by omega)]
  | succ k ih =>
    intro l N T Tm I R hs ha hne hl h2 hk m hm
    obtain ⟨m, rfl⟩ : ∃ q, m = q + 1 := ⟨m - 1, by omega⟩
    have h1 : 2 ≤ T b 1 ∧ T b 1 ≤ 7 := I.2.1.2.1
    have hc := I.2.1.2.2.2.2
    have b1 := wb_s7_sewn I
    have j3 := I.2.2.2.2.2.2.2.2.2.1
    have m5 : Tm 222 5 = T (b + 20) 0 := (wb_rd_sc R h1.1).2.2.1
    unfold w155_2
    rw [wb_r2 ⟨by omega, by omega⟩ (by decide), Option.bind_some]
    by_cases h3 : l < 2000
    · obtain ⟨T1, Tm1, e1, e2, e3, e4, e5⟩ := wb_minute_sl (sh := sh) I R hs ha
      obtain ⟨Tm2, l2, g1, g2, g3⟩ := ih (l + 1) (N + 8) T1 Tm1 e2 e3 (by rw [e4 221 (by decide)]; exact hs) (by rw [e5.2.2.2, e5.1]; exact ha) (by rw [e5.2.1, e5.2.2.1]; exact hne) (by omega) (by omega) (by omega) m (by omega)
      refine ⟨Tm2, l2, ?_, g2, wb_fm.tr e4 g3⟩
      rw [if_pos h3, wb_w123 I R (by decide), Option.bind_some, wb_ld (by decide), Option.bind_some, m5, j3, wb_r2 ⟨by omega, by omega⟩ ⟨by omega, by omega⟩, Option.bind_some, if_pos (by omega), e1, Option.bind_some]
      exact g1
    · rw [if_neg h3]
      exact ⟨Tm, l, rfl, wb_fin_n I R hne, wb_fm.rf⟩
theorem wb_until_2 {b : Nat} {sh : Int} : ∀ (k : Nat) (l N : Int) (T Tm : sw_T), wb_iv T b N → wb_rp T b (Tm 222) → ((sh = 1 ∧ Tm 221 9 = 0) ∨ (sh = 0 ∧ Tm 221 9 = 1)) → 0 ≤ l → l ≤ 2000 → 2000 - l ≤ k → ∀ m1 m2, k + 1 < m1 → k < m2 → ∃ v T1 Tm1 l1, (w41_2 b sh m1 T l = some (.inr (v, T1)) ∨ (w41_2 b sh m1 T l = some (.inl T1) ∧ v = -1)) ∧ w155_2 m2 Tm l = some (Tm1, l1) ∧ wb_fin Tm1 l1 v ∧ wb_fc b T T1 ∧ wb_fm Tm Tm1 ∧ (-1 ≤ v ∧ v ≤ 2000) := by
  intro k
  induction k with
  | zero =>
    intro l N T Tm I R hs hl h2 hk m1 m2 hm1 hm2
    obtain ⟨m1, rfl⟩ : ∃ q, m1 = q + 2 := ⟨m1 - 2, by omega⟩
    obtain ⟨m2, rfl⟩ : ∃ q, m2 = q + 1 := ⟨m2 - 1, by omega⟩
    have h1 : 2 ≤ T b 1 ∧ T b 1 ≤ 7 := I.2.1.2.1
    have hc := I.2.1.2.2.2.2
    have b1 := wb_s7_sewn I
    have b5 := wb_s7_bd (f := T (b + 5)) (m := 1) (fun w hw => by have := (I.2.2.1 w hw).2.2.2.1; omega)
    have em : w155_2 (m2 + 1) Tm l = some (Tm, l) := by
      unfold w155_2
      rw [wb_r2 ⟨by omega, by omega⟩ (by decide), Option.bind_some, if_neg (by omega)]
    rw [em, w41_2, wb_r2 (b := 2000) ⟨by omega, by omega⟩ (by decide), Option.bind_some, if_neg (by omega), wb_w45 I, Option.bind_some, wb_r2 ⟨by omega, by omega⟩ ⟨by omega, by omega⟩, Option.bind_some]
    by_cases h3 : wb_s7 (T (b + 6)) = T (b + 20) 0
    · rw [if_pos h3]
      exact ⟨l, T, Tm, l, .inl rfl, rfl, wb_fin_y I R h3, wb_fc.rf, wb_fm.rf, by omega, h2⟩
    · rw [if_neg h3, wb_w47 I, Option.bind_some, wb_r2 ⟨by omega, by omega⟩ ⟨by omega, by omega⟩, Option.bind_some]
      by_cases h4 : wb_s7 (T (b + 5)) = T b 1
      · rw [if_pos h4]
        exact ⟨-1, T, Tm, l, .inl rfl, rfl, wb_fin_n I R h3, wb_fc.rf, wb_fm.rf, by omega, by omega⟩
      · obtain ⟨T1, Tm1, e1, e2, e3, e4, e5, e6, e7⟩ := wb_minute (sh := sh) I R hs
        rw [if_neg h4, e1, Option.bind_some, w41_2, wb_r2 ⟨by omega, by omega⟩ (by decide), Option.bind_some, if_pos (by omega)]
        exact ⟨-1, T1, Tm, l, .inr ⟨rfl, rfl⟩, rfl, wb_fin_n I R h3, e5, wb_fm.rf, by omega, by omega⟩
  | succ k ih =>
    intro l N T Tm I R hs hl h2 hk m1 m2 hm1 hm2
    by_cases hk0 : 2000 - l ≤ k
    · exact ih l N T Tm I R hs hl h2 hk0 m1 m2 (by omega) (by omega)
    · obtain ⟨m1, rfl⟩ : ∃ q, m1 = q + 1 := ⟨m1 - 1, by omega⟩
      have h1 : 2 ≤ T b 1 ∧ T b 1 ≤ 7 := I.2.1.2.1
      have hc := I.2.1.2.2.2.2
      have b1 := wb_s7_sewn I
      have j3 := I.2.2.2.2.2.2.2.2.2.1
      have m5 : Tm 222 5 = T (b + 20) 0 := (wb_rd_sc R h1.1).2.2.1
      have b5 := wb_s7_bd (f := T (b + 5)) (m := 1) (fun w hw => by have := (I.2.2.1 w hw).2.2.2.1; omega)
      by_cases h3 : wb_s7 (T (b + 6)) = T (b + 20) 0
      · obtain ⟨m2, rfl⟩ : ∃ q, m2 = q + 1 := ⟨m2 - 1, by omega⟩
        refine ⟨l, T, Tm, l, .inl ?_, ?_, wb_fin_y I R h3, wb_fc.rf, wb_fm.rf, by omega, h2⟩
        · rw [w41_2, wb_r2 (b := 2000) ⟨by omega, by omega⟩ (by decide), Option.bind_some, if_neg (by omega), wb_w45 I, Option.bind_some, wb_r2 ⟨by omega, by omega⟩ ⟨by omega, by omega⟩, Option.bind_some, if_pos h3]
        · rw [w155_2, wb_r2 ⟨by omega, by omega⟩ (by decide), Option.bind_some, if_pos (by omega), wb_w123 I R (by decide), Option.bind_some, wb_ld (by decide), Option.bind_some, m5, j3, wb_r2 ⟨by omega, by omega⟩ ⟨by omega, by omega⟩, Option.bind_some, if_neg (by omega)]
      · by_cases h4 : wb_s7 (T (b + 5)) = T b 1
        · have ha := wb_s7_full h1 (fun w hw => (I.2.2.1 w hw).2.2.2.1) (fun w hw => (I.2.2.2.1 w hw).2.2.1) h4
          obtain ⟨Tm1, l1, g1, g2, g3⟩ := wb_sl_2 (k + 1) l N T Tm I R hs ha h3 hl h2 (by omega) m2 (by omega)
          refine ⟨-1, T, Tm1, l1, .inl ?_, g1, g2, wb_fc.rf, g3, by omega, by omega⟩
          rw [w41_2, wb_r2 (b := 2000) ⟨by omega, by omega⟩ (by decide), Option.bind_some, if_neg (by omega), wb_w45 I, Option.bind_some, wb_r2 ⟨by omega, by omega⟩ ⟨by omega, by omega⟩, Option.bind_some, if_neg h3, wb_w47 I, Option.bind_some, wb_r2 ⟨by omega, by omega⟩ ⟨by omega, by omega⟩, Option.bind_some, if_pos h4]
        · obtain ⟨m2, rfl⟩ : ∃ q, m2 = q + 1 := ⟨m2 - 1, by omega⟩
          obtain ⟨T1, Tm1, e1, e2, e3, e4, e5, e6, e7⟩ := wb_minute (sh := sh) I R hs
          obtain ⟨v, T2, Tm2, l2, g1, g2, g3, g4, g5, g6⟩ := ih (l + 1) (N + 8) T1 Tm1 e3 e4 (by rw [e6 221 (by decide)]; exact hs) (by omega) (by omega) (by omega) m1 m2 (by omega) (by omega)
          have ec : w41_2 b sh (m1 + 1) T l = w41_2 b sh m1 T1 (l + 1) := by
            rw [w41_2, wb_r2 (b := 2000) ⟨by omega, by omega⟩ (by decide), Option.bind_some, if_neg (by omega), wb_w45 I, Option.bind_some, wb_r2 ⟨by omega, by omega⟩ ⟨by omega, by omega⟩, Option.bind_some, if_neg h3, wb_w47 I, Option.bind_some, wb_r2 ⟨by omega, by omega⟩ ⟨by omega, by omega⟩, Option.bind_some, if_neg h4, e1, Option.bind_some]
          rw [← ec] at g1
          refine ⟨v, T2, Tm2, l2, g1, ?_, g3, wb_fc.tr e5 g4, wb_fm.tr e6 g5, g6⟩
          rw [w155_2, wb_r2 ⟨by omega, by omega⟩ (by decide), Option.bind_some, if_pos (by omega), wb_w123 I R (by decide), Option.bind_some, wb_ld (by decide), Option.bind_some, m5, j3, wb_r2 ⟨by omega, by omega⟩ ⟨by omega, by omega⟩, Option.bind_some, if_pos (by omega), e2, Option.bind_some]
          exact g2
theorem wb_until {b : Nat} {sh N : Int} {T Tm : sw_T} (I : wb_iv T b N) (R : wb_rp T b (Tm 222)) (hs : (sh = 1 ∧ Tm 221 9 = 0) ∨ (sh = 0 ∧ Tm 221 9 = 1)) : ∃ v T1 Tm1, w41 b T sh = some (v, T1) ∧ w155 Tm = some (v, Tm1) ∧ wb_fc b T T1 ∧ wb_fm Tm Tm1 ∧ (-1 ≤ v ∧ v ≤ 2000) := by
  obtain ⟨v, T1, Tm1, l1, g1, g2, g3, g4, g5, g6⟩ := wb_until_2 2000 0 N T Tm I R hs (by decide) (by decide) (by decide) sw_N sw_N (by decide) (by decide)
  refine ⟨v, T1, Tm1, ?_, ?_, g4, g5, g6⟩
  · unfold w41
    rcases g1 with g | ⟨g, rfl⟩
    · rw [g, Option.bind_some, wb_elr]
    · rw [g, Option.bind_some, wb_eli]
  · unfold w155
    rw [g2, Option.bind_some]
    exact g3
