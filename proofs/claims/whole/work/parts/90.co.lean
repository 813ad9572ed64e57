/-! ===== the text obeyed ===== -/
theorem wt_w7 {T : sw_T} {L i : Int} (t : wt_cl T L) (hi : 0 ≤ i ∧ i < 1000) : w7 T i = some (wt_sg (T 220) L i) := by
  obtain ⟨t1, t2, t3⟩ := t
  unfold w7 wt_sg
  rw [wb_r1 ⟨by omega, by omega⟩, Option.bind_some, if_neg (by omega), t1, wb_r2 ⟨by omega, by omega⟩ ⟨by omega, by omega⟩, Option.bind_some]
  by_cases h : i < L
  · rw [if_pos h, if_pos h, wb_ld ⟨hi.1, by omega⟩, Option.bind_some]
  · rw [if_neg h, if_neg h]
theorem wt_sgc {T : sw_T} {L a : Int} (t : wt_cl T L) (ha : 0 ≤ a) : (0 ≤ wt_sg (T 220) L a ∧ wt_sg (T 220) L a ≤ 126) ∧ (wt_sg (T 220) L a ≠ 0 → a < L ∧ wt_sg (T 220) L a = T 220 a) ∧ (a < L → wt_sg (T 220) L a = T 220 a) := by
  unfold wt_sg
  by_cases h : a < L
  · rw [if_pos h]
    have := t.2.2 a ⟨ha, h⟩
    exact ⟨⟨by omega, by omega⟩, fun _ => ⟨h, rfl⟩, fun _ => rfl⟩
  · rw [if_neg h]
    exact ⟨⟨by decide, by decide⟩, fun g => absurd rfl g, fun g => absurd g h⟩
theorem wt_w11 {T : sw_T} {L q q' n : Int} (t : wt_cl T L) (h : wt_nb (T 220) L q q' n) (hq : 0 ≤ q) : w11 T q = some n ∧ 1 ≤ n ∧ n ≤ 99 := by
  obtain ⟨h1, h2, h3⟩ := h
  have hL := t.2.1
  have e1 : wt_sg (T 220) L q = T 220 q := if_pos h1
  have hs := (wt_sgc t (a := q + 1) (by omega)).1
  unfold w11
  rw [wt_w7 t ⟨hq, by omega⟩, Option.bind_some, wt_w7 t ⟨by omega, by omega⟩, Option.bind_some, wt_w15 ⟨by omega, by omega⟩ (wb_rgd (by decide)) (wb_rgd (by decide)), Option.bind_some, e1, wb_r1 wt_b01.2, Option.bind_some]
  rcases h3 with ⟨g1, g2, g3⟩ | ⟨g1, g2, g3⟩
  · refine ⟨?_, by omega, by omega⟩
    rw [if_pos g1, if_neg (by decide), g3]
    congr 1
    omega
  · refine ⟨?_, by omega, by omega⟩
    rw [if_neg g1, if_pos rfl, g3]
theorem wt_w11v {T : sw_T} {L q : Int} (t : wt_cl T L) (hq : 0 ≤ q ∧ q < L) (hn : ¬ (48 ≤ wt_sg (T 220) L (q + 1) ∧ wt_sg (T 220) L (q + 1) ≤ 57)) : w11 T q = some (T 220 q - 48) := by
  have hL := t.2.1
  have e1 : wt_sg (T 220) L q = T 220 q := if_pos hq.2
  have hs := (wt_sgc t (a := q + 1) (by omega)).1
  unfold w11
  rw [wt_w7 t ⟨hq.1, by omega⟩, Option.bind_some, wt_w7 t ⟨by omega, by omega⟩, Option.bind_some, wt_w15 ⟨by omega, by omega⟩ (wb_rgd (by decide)) (wb_rgd (by decide)), Option.bind_some, e1, wb_r1 wt_b01.2, Option.bind_some, if_neg hn, if_pos rfl]
theorem wt_nb_ne {T : sw_T} {L p p' n : Int} (t : wt_cl T L) (hp : 0 ≤ p) (h : wt_nb (T 220) L p p' n) : (p < p' ∧ p' ≤ L) ∧ ∀ i, p ≤ i ∧ i < p' → T 220 i ≠ 59 := by
  obtain ⟨h1, h2, h3⟩ := h
  rcases h3 with ⟨g1, g2, g3⟩ | ⟨g1, g2, g3⟩
  · obtain ⟨q1, q2⟩ := (wt_sgc t (a := p + 1) (by omega)).2.1 (by omega)
    refine ⟨⟨by omega, by omega⟩, fun i hi => ?_⟩
    have : i = p ∨ i = p + 1 := by omega
    rcases this with rfl | rfl
    · omega
    · rw [← q2]
      omega
  · refine ⟨⟨by omega, by omega⟩, fun i hi => ?_⟩
    obtain rfl : i = p := by omega
    omega
theorem wt_part_ne {T : sw_T} {L p p' k w n : Int} (t : wt_cl T L) (hp : 0 ≤ p) (h : wt_part (T 220) L p p' k w n) : (p + 2 ≤ p' ∧ p' ≤ L) ∧ ∀ i, p ≤ i ∧ i < p' → T 220 i ≠ 59 := by
  obtain ⟨h1, h2, h3⟩ := h
  rcases h3 with ⟨rfl, ⟨w1, w2, w3⟩, ⟨d1, d2⟩, hn⟩ | ⟨rfl, ⟨w1, w2, w3⟩, ⟨d1, d2, d3⟩, d4⟩ | ⟨rfl, ⟨w1, w2, w3⟩, d4⟩ | ⟨rfl, hn⟩
  · obtain ⟨b1, b2⟩ := wt_nb_ne t (by omega) hn
    refine ⟨⟨by omega, b1.2⟩, fun i hi => ?_⟩
    by_cases hi3 : p + 3 ≤ i
    · exact b2 i ⟨hi3, hi.2⟩
    · have : i = p ∨ i = p + 1 ∨ i = p + 2 := by omega
      rcases this with rfl | rfl | rfl <;> omega
  · refine ⟨⟨by omega, by omega⟩, fun i hi => ?_⟩
    have : i = p ∨ i = p + 1 ∨ i = p + 2 := by omega
    rcases this with rfl | rfl | rfl <;> omega
  · refine ⟨⟨by omega, by omega⟩, fun i hi => ?_⟩
    have : i = p ∨ i = p + 1 := by omega
    rcases this with rfl | rfl <;> omega
  · obtain ⟨b1, b2⟩ := wt_nb_ne t (by omega) hn
    refine ⟨⟨by omega, b1.2⟩, fun i hi => ?_⟩
    by_cases hi3 : p + 1 ≤ i
    · exact b2 i ⟨hi3, hi.2⟩
    · obtain rfl : i = p := by omega
      omega
theorem wt_60 {M : sw_T} {l a b : Int} : w141_60 M l a b = some (0, M) := by
  unfold w141_60 w141_61
  rw [wb_r1 (by decide), Option.bind_some, if_pos rfl, wb_b1 (.inl rfl), Option.bind_some]
/-- an order done -/
theorem wt_do {T M : sw_T} {L p p' r k w n N : Int} (t : wt_cl T L) (I : wb_iw T 1 N) (R : wb_rp T 1 (M 222)) (h9 : M 221 9 = 0) (hp : wt_part (T 220) L p p' k w n) (he : p' = L ∨ T 220 p' = 59) (hp0 : 0 ≤ p) (hr : 0 ≤ r ∧ 3 * r + 2 < 100) (hk : M 227 (3 * r) = k ∧ M 227 (3 * r + 1) = w ∧ M 227 (3 * r + 2) = n) : ∃ ok T1 M1, w93 T p = some (ok, T1) ∧ w141 M (3 * r) = some (ok, M1) ∧ (ok = 0 ∨ ok = 1) ∧ wb_iw T1 1 (N + 800) ∧ wb_rp T1 1 (M1 222) ∧ wb_fc 1 T T1 ∧ wb_fm M M1 := by
  have hL := t.2.1
  have h1 : 2 ≤ T 1 1 ∧ T 1 1 ≤ 7 := I.1.2.1.2.1
  have m4 : M 222 4 = T 1 1 := (wb_rd_sc R h1.1).2.1
  obtain ⟨k1, k2, k3⟩ := hk
  have l0 : sw_ld M 227 100 (3 * r) = some k := by rw [wb_ld ⟨by omega, by omega⟩, k1]
  have l1 : sw_ld M 227 100 (3 * r + 1) = some w := by rw [wb_ld ⟨by omega, by omega⟩, k2]
  have l2 : sw_ld M 227 100 (3 * r + 2) = some n := by rw [wb_ld ⟨by omega, by omega⟩, k3]
  have hne := (wt_part_ne t hp0 hp).1
  obtain ⟨p1, p2, p3⟩ := hp
  have ec : w7 T p = some k := by
    rw [wt_w7 t ⟨hp0, by omega⟩]
    congr 1
    rw [← p2]
    exact if_pos p1
  by_cases hm : k = 109
  · have hn : wt_nb (T 220) L (p + 1) p' n := by
      rcases p3 with ⟨q, -⟩ | ⟨q, -⟩ | ⟨q, -⟩ | ⟨-, q⟩
      · omega
      · omega
      · omega
      · exact q
    obtain ⟨g1, g2, g3⟩ := wt_w11 t hn (by omega)
    obtain ⟨T1, M1, e1, e2, e3, e4, e5, e6, e7⟩ := wb_pass (c := n) (N := N) ⟨by omega, by omega⟩ I.1 R h9
    refine ⟨1, T1, M1, ?_, ?_, .inr rfl, ⟨wb_iv_le e3 (by omega), by rw [e7.1]; exact I.2⟩, e4, e5, e6⟩
    · unfold w93
      rw [ec, Option.bind_some, hm, wb_r2 (by decide) (by decide), Option.bind_some, if_pos rfl, g1, Option.bind_some, e1, Option.bind_some]
    · unfold w141 w141_56 w141_61
      rw [l1, Option.bind_some, l2, Option.bind_some, l0, Option.bind_some, hm, wb_r2 (by decide) (by decide), Option.bind_some, if_pos rfl, wb_r1 (by decide), Option.bind_some, if_neg (by decide), Option.bind_some, wb_r1 (by decide), Option.bind_some, if_neg (by decide), if_neg (by decide), if_neg (by decide), e2, Option.bind_some, wb_b1 (.inr rfl), Option.bind_some]
  · have hw : wt_who (T 220) L (p + 1) w := by
      rcases p3 with ⟨-, q, -⟩ | ⟨-, q, -⟩ | ⟨-, q, -⟩ | ⟨q, -⟩
      · exact q
      · exact q
      · exact q
      · exact absurd q hm
    obtain ⟨w1, w2, w3⟩ := hw
    have hkr : wb_rg k := by
      rcases p3 with ⟨q, -⟩ | ⟨q, -⟩ | ⟨q, -⟩ | ⟨q, -⟩ <;> exact ⟨by omega, by omega⟩
    have ec1 : w7 T (p + 1) = some (T 220 (p + 1)) := by
      rw [wt_w7 t ⟨by omega, by omega⟩]
      congr 1
      exact if_pos w1
    by_cases hs : 0 ≤ w ∧ w < T 1 1
    · have e25 : w25 1 T (T 220 (p + 1) - 48) = some 1 := by
        rw [← w3]
        exact wb_w25y h1 hs
      have e104 : w104 M w = some 1 := wb_w104y m4 h1 hs
      rcases p3 with ⟨rfl, -, ⟨d1, d2⟩, hn⟩ | ⟨rfl, -, ⟨d1, d2, d3⟩, d4⟩ | ⟨rfl, -, d4⟩ | ⟨q, -⟩
      · -- a laying
        obtain ⟨g1, g2, g3⟩ := wt_w11 t hn (by omega)
        obtain ⟨a1, a2⟩ := wb_w29 I.1 R hs
        have hc := I.1.2.1.2.2.2.2
        by_cases hcan : T (1 + 11) w < 16 ∧ T (1 + 20) 0 < 120
        · rw [if_pos hcan] at a1 a2
          have hh := (I.1.2.2.1 w ⟨hs.1, by omega⟩).2.2.2.2.2.2.2
          obtain ⟨b1, M1, b2, b3, b4⟩ := wb_com_ok (w := w) (k := n) R h1 (fun w hw => (I.1.2.2.1 w hw).2.2.2.1) ⟨hc.1, hcan.2⟩ hs ⟨hh.1, hcan.1⟩
          have b5 := wb_com_iv (k := n) I.1 hs ⟨by omega, g3⟩ hcan.2 hcan.1
          refine ⟨1, wb_com T 1 w n, M1, ?_, ?_, .inr rfl, ⟨wb_iv_le b5 (by omega), by rw [wb_com_sm.1]; exact I.2⟩, b3, wb_com_fc ⟨hs.1, by omega⟩, b4⟩
          · unfold w93
            rw [ec, Option.bind_some, wb_r2 (by decide) (by decide), Option.bind_some, if_neg (by decide), ec1, Option.bind_some, e25, Option.bind_some, wb_r1 (by decide), Option.bind_some, if_neg (by decide), wb_r2 (by decide) (by decide), Option.bind_some, if_neg (by decide), wb_r2 (by decide) (by decide), Option.bind_some, if_neg (by decide), ← w3, a1, Option.bind_some, wb_r1 (by decide), Option.bind_some, if_neg (by decide), g1, Option.bind_some, b1, Option.bind_some]
          · unfold w141 w141_56 w141_61
            rw [l1, Option.bind_some, l2, Option.bind_some, l0, Option.bind_some, wb_r2 (by decide) (by decide), Option.bind_some, if_neg (by decide), e104, Option.bind_some, wb_r1 (by decide), Option.bind_some, if_neg (by decide), Option.bind_some, wb_r2 (by decide) (by decide), Option.bind_some, if_pos rfl, a2, Option.bind_some, Option.bind_some, if_neg (by decide), Option.bind_some, if_neg (by decide), wb_r1 (by decide), Option.bind_some, wb_r1 (by decide), Option.bind_some, if_pos rfl, b2, Option.bind_some, wb_b1 (.inr rfl), Option.bind_some]
        · rw [if_neg hcan] at a1 a2
          refine ⟨0, T, M, ?_, ?_, .inl rfl, wb_iw_le I (by omega), R, wb_fc.rf, wb_fm.rf⟩
          · unfold w93
            rw [ec, Option.bind_some, wb_r2 (by decide) (by decide), Option.bind_some, if_neg (by decide), ec1, Option.bind_some, e25, Option.bind_some, wb_r1 (by decide), Option.bind_some, if_neg (by decide), wb_r2 (by decide) (by decide), Option.bind_some, if_neg (by decide), wb_r2 (by decide) (by decide), Option.bind_some, if_neg (by decide), ← w3, a1, Option.bind_some, wb_r1 (by decide), Option.bind_some, if_pos rfl]
          · unfold w141
            rw [l1, Option.bind_some, l2, Option.bind_some, l0, Option.bind_some, wb_r2 (by decide) (by decide), Option.bind_some, if_neg (by decide), e104, Option.bind_some, wb_r1 (by decide), Option.bind_some, if_neg (by decide), Option.bind_some, wb_r2 (by decide) (by decide), Option.bind_some, if_pos rfl, a2, Option.bind_some, wb_r1 (by decide), Option.bind_some, if_pos rfl, wt_60]
      · -- a speed
        have hnx : ¬ (48 ≤ wt_sg (T 220) L (p + 2 + 1) ∧ wt_sg (T 220) L (p + 2 + 1) ≤ 57) := by
          have e3 : p' = p + 2 + 1 := by omega
          rw [← e3]
          rcases he with g | g
          · have : wt_sg (T 220) L p' = 0 := if_neg (by omega)
            omega
          · by_cases hl : p' < L
            · have : wt_sg (T 220) L p' = T 220 p' := if_pos hl
              omega
            · have : wt_sg (T 220) L p' = 0 := if_neg hl
              omega
        have g1 : w11 T (p + 2) = some n := by
          rw [wt_w11v t ⟨by omega, d1⟩ hnx, d3]
        obtain ⟨b1, b2, b3, b4, b5⟩ := wb_w27_ok (w := w) (v := n) I.1 R hs ⟨by omega, by omega⟩
        refine ⟨1, _, _, ?_, ?_, .inr rfl, ⟨wb_iv_le b5 (by omega), by rw [sw_up_ne (by decide)]; exact I.2⟩, b4, wb_fc.rf.up (by decide), wb_fm.rf.up⟩
        · unfold w93
          rw [ec, Option.bind_some, wb_r2 (by decide) (by decide), Option.bind_some, if_neg (by decide), ec1, Option.bind_some, e25, Option.bind_some, wb_r1 (by decide), Option.bind_some, if_neg (by decide), wb_r2 (by decide) (by decide), Option.bind_some, if_neg (by decide), wb_r2 (by decide) (by decide), Option.bind_some, if_pos rfl, g1, Option.bind_some, ← w3, b1, Option.bind_some]
        · unfold w141 w141_56 w141_61
          rw [l1, Option.bind_some, l2, Option.bind_some, l0, Option.bind_some, wb_r2 (by decide) (by decide), Option.bind_some, if_neg (by decide), e104, Option.bind_some, wb_r1 (by decide), Option.bind_some, if_neg (by decide), Option.bind_some, wb_r2 (by decide) (by decide), Option.bind_some, if_neg (by decide), Option.bind_some, if_neg (by decide), Option.bind_some, wb_r1 (by decide), Option.bind_some, if_neg (by decide), if_pos rfl, b3, Option.bind_some, wb_b1 (.inr rfl), Option.bind_some]
      · -- a waking
        obtain ⟨b1, b2, M1, b3, b4, b5⟩ := wb_rou_ok (w := w) I.1 R hs
        refine ⟨1, wb_rou T 1 w, M1, ?_, ?_, .inr rfl, ⟨wb_iv_le b2 (by omega), ?_⟩, b4, ?_, b5⟩
        · unfold w93
          rw [ec, Option.bind_some, wb_r2 (by decide) (by decide), Option.bind_some, if_neg (by decide), ec1, Option.bind_some, e25, Option.bind_some, wb_r1 (by decide), Option.bind_some, if_neg (by decide), wb_r2 (by decide) (by decide), Option.bind_some, if_pos rfl, ← w3, b1, Option.bind_some]
        · unfold w141 w141_56 w141_61
          rw [l1, Option.bind_some, l2, Option.bind_some, l0, Option.bind_some, wb_r2 (by decide) (by decide), Option.bind_some, if_neg (by decide), e104, Option.bind_some, wb_r1 (by decide), Option.bind_some, if_neg (by decide), Option.bind_some, wb_r2 (by decide) (by decide), Option.bind_some, if_neg (by decide), Option.bind_some, if_neg (by decide), Option.bind_some, wb_r1 (by decide), Option.bind_some, if_neg (by decide), if_neg (by decide), if_pos rfl, b3, Option.bind_some, wb_b1 (.inr rfl), Option.bind_some]
        · unfold wb_rou
          rw [sw_up_ne (by decide), sw_up_ne (by decide)]
          exact I.2
        · unfold wb_rou
          exact (wb_fc.rf.up (by decide)).up (by decide)
      · exact absurd q hm
    · refine ⟨0, T, M, ?_, ?_, .inl rfl, wb_iw_le I (by omega), R, wb_fc.rf, wb_fm.rf⟩
      · unfold w93
        rw [ec, Option.bind_some, wb_r2 hkr (by decide), Option.bind_some, if_neg hm, ec1, Option.bind_some, ← w3, wb_w25 h1 ⟨by omega, by omega⟩, if_neg hs, Option.bind_some, wb_r1 (by decide), Option.bind_some, if_pos rfl]
      · unfold w141
        rw [l1, Option.bind_some, l2, Option.bind_some, l0, Option.bind_some, wb_r2 hkr (by decide), Option.bind_some, if_neg hm, wb_w104n m4 h1 ⟨by omega, by omega⟩ hs, Option.bind_some, wb_r1 (by decide), Option.bind_some, if_pos rfl, wt_60]
