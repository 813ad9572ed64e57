/-! ===== what the calls test ===== -/
theorem wb_w90y {T : sw_T} {p : Int} (h : 2 ≤ T 1 1 ∧ T 1 1 ≤ 7) (hw : 0 ≤ p ∧ p < T 1 1) : w90 T p = some (.inl ()) := by
  unfold w90
  rw [wb_w25y h hw, Option.bind_some, wb_r1 (by decide), Option.bind_some, if_neg (by decide)]
theorem wb_w90n {T : sw_T} {p : Int} (h : 2 ≤ T 1 1 ∧ T 1 1 ≤ 7) (hp : wb_rg p) (hw : ¬ (0 ≤ p ∧ p < T 1 1)) : w90 T p = some (.inr 2) := by
  unfold w90
  rw [wb_w25 h hp, if_neg hw, Option.bind_some, wb_r1 (by decide), Option.bind_some, if_pos rfl]
theorem wb_w91y {T : sw_T} {p : Int} (h : 1 ≤ p ∧ p ≤ 9) : w91 T p = some (.inl ()) := by
  unfold w91
  rw [wb_r2 ⟨by omega, by omega⟩ (by decide), Option.bind_some, if_neg (by omega), wb_r2 ⟨by omega, by omega⟩ (by decide), Option.bind_some, if_neg (by omega)]
theorem wb_w91n {T : sw_T} {p : Int} (hp : wb_rg p) (h : ¬ (1 ≤ p ∧ p ≤ 9)) : w91 T p = some (.inr 0) := by
  unfold w91
  rw [wb_r2 hp (by decide), Option.bind_some]
  by_cases h1 : p < 1
  · rw [if_pos h1]
  · rw [if_neg h1, wb_r2 hp (by decide), Option.bind_some, if_pos (by omega)]
theorem wb_w92y {T : sw_T} {p : Int} (h : 0 ≤ p ∧ p < 3) : w92 T p = some (.inl ()) := by
  unfold w92
  rw [wb_r1 ⟨by omega, by omega⟩, Option.bind_some, if_neg (by omega), wb_r2 ⟨by omega, by omega⟩ (by decide), Option.bind_some, if_pos h.2]
theorem wb_w92n {T : sw_T} {p : Int} (hp : wb_rg p) (h : ¬ (0 ≤ p ∧ p < 3)) : w92 T p = some (.inr 2) := by
  unfold w92
  rw [wb_r1 hp, Option.bind_some]
  by_cases h1 : p < 0
  · rw [if_pos h1]
  · rw [if_neg h1, wb_r2 hp (by decide), Option.bind_some, if_neg (by omega)]
theorem wb_w96y {T : sw_T} {v l m : Int} (hl : wb_rg l) (hm : wb_rg m) (h : l ≤ v ∧ v ≤ m) : w96 T v l m = some 1 := by
  have hv : wb_rg v := by
    unfold wb_rg at *
    omega
  rw [wb_w96 hv hl hm, if_pos h]
theorem wb_w96n {T : sw_T} {v l m : Int} (hv : wb_rg v) (hl : wb_rg l) (hm : wb_rg m) (h : ¬ (l ≤ v ∧ v ≤ m)) : w96 T v l m = some 0 := by
  rw [wb_w96 hv hl hm, if_neg h]
theorem wb_rgd {k : Int} (h : -2147483648 ≤ k ∧ k < 2147483648) : wb_rg k := h
theorem wb_w104y {T : sw_T} {p n : Int} (hn : T 222 4 = n) (h : 2 ≤ n ∧ n ≤ 7) (hw : 0 ≤ p ∧ p < n) : w104 T p = some 1 := by
  unfold w104
  rw [wb_ld (by decide), Option.bind_some, hn, wb_w96y (wb_rgd (by decide)) (wb_rgd (by omega)) (by omega), Option.bind_some, wb_b1 (.inr rfl), Option.bind_some]
theorem wb_w104n {T : sw_T} {p n : Int} (hn : T 222 4 = n) (h : 2 ≤ n ∧ n ≤ 7) (hp : wb_rg p) (hw : ¬ (0 ≤ p ∧ p < n)) : w104 T p = some 0 := by
  unfold w104
  rw [wb_ld (by decide), Option.bind_some, hn, wb_w96n hp (wb_rgd (by decide)) (wb_rgd (by omega)) (by omega), Option.bind_some, wb_b1 (.inl rfl), Option.bind_some]
theorem wb_w97 {T : sw_T} {k : Int} : w97 T k = some (0, sw_up T 221 0 k) := rfl
theorem wb_w45 {T : sw_T} {b : Nat} {N : Int} (I : wb_iv T b N) : w45 b T = some (wb_s7 (T (b + 6))) := by
  unfold w45
  rw [wb_w48 (r := b + 6) I.2.1.2.1 (fun w hw => (I.2.2.2.1 w hw).2.2.2.1), Option.bind_some]
theorem wb_s7_sewn {T : sw_T} {b : Nat} {N : Int} (I : wb_iv T b N) : 0 ≤ wb_s7 (T (b + 6)) ∧ wb_s7 (T (b + 6)) ≤ T (b + 20) 0 := by
  have hc := I.2.1.2.2.2.2
  have h := I.2.2.2.2.2.2.2.2.2.1
  have h2 := wb_ct_le (f := T (b + 22)) (c := 2) (T (b + 20) 0).toNat
  omega
theorem wb_com_sm {b : Nat} {T : sw_T} {w k : Int} : wb_sm1 b T (wb_com T b w k) := by
  have h2 : wb_sm1 b T (wb_lay T b w k) := by
    unfold wb_lay
    exact ((((((wb_sm1.rf.up (by decide)).up (by decide)).up (by decide)).up (by decide)).up (by omega)).up (by decide))
  unfold wb_com wb_wkf
  split
  · exact (h2.up (by decide)).up (by decide)
  · exact h2
/-! ===== the calls that save ===== -/
theorem wb_op_hire {T Tm : sw_T} {N p : Int} (h : wb_R T Tm N) (hp : wb_rg p) : wb_res (w169 T p) (w125 Tm p) T Tm N := by
  have h1 : 2 ≤ T 1 1 ∧ T 1 1 ≤ 7 := h.1.1.1.2.1.2.1
  have h0 := wb_R_k (k := 0) (v := 0) h (by decide)
  have m4 : sw_up Tm 221 0 0 222 4 = T 1 1 := (wb_rd_sc h0.1.2 h1.1).2.1
  by_cases hv : 1 ≤ p ∧ p ≤ 9
  · by_cases h6 : T 1 1 < 6
    · obtain ⟨T1, Tm1, e1, e2, R1, s⟩ := wb_save h0
      have hs1 : T1 1 = T 1 := s.1 1 (by decide)
      obtain ⟨T2, Tm2, g1, g2, I2, R2, c1, c2, g3⟩ := wb_hire (N := N) (v := p) R1.1.1.1 R1.1.2 (by rw [hs1]; omega) hv
      rw [hs1] at g1 g2 g3
      refine wb_res_do R1 s c1 c2 (Int.le_refl _) ⟨I2, by omega⟩ R2 (wb_h169 (v := T 1 1) ?_ ⟨by omega, by omega⟩) ?_ ⟨by omega, by omega⟩
      · unfold w59
        rw [wb_w91y hv, Option.bind_some, wb_eli, wb_r2 ⟨by omega, by omega⟩ (by decide), Option.bind_some, if_pos h6, e1, Option.bind_some, g1, Option.bind_some]
      · unfold w125
        rw [wb_pf, Option.bind_some, wb_w96y (wb_rgd (by decide)) (wb_rgd (by decide)) hv, Option.bind_some, wb_r1 (by decide), Option.bind_some, if_neg (by decide), wb_ld (by decide), Option.bind_some, m4, wb_r2 ⟨by omega, by omega⟩ (by decide), Option.bind_some, if_neg (by omega), e2, Option.bind_some, g2, Option.bind_some]
    · have h66 : T 1 1 = 6 := by have := h.1.1.2; omega
      refine wb_res_no (k := 2) (wb_t169_1 ?_) ?_ ⟨wb_rgd (by decide), by decide⟩ h
      · unfold w59
        rw [wb_w91y hv, Option.bind_some, wb_eli, wb_r2 ⟨by omega, by omega⟩ (by decide), Option.bind_some, if_neg h6]
      · unfold w125
        rw [wb_pf, Option.bind_some, wb_w96y (wb_rgd (by decide)) (wb_rgd (by decide)) hv, Option.bind_some, wb_r1 (by decide), Option.bind_some, if_neg (by decide), wb_ld (by decide), Option.bind_some, m4, wb_r2 ⟨by omega, by omega⟩ (by decide), Option.bind_some, if_pos h66, wb_w97, Option.bind_some]
  · refine wb_res_no (k := 1) (wb_t169_0 ?_) ?_ ⟨wb_rgd (by decide), by decide⟩ h
    · unfold w59
      rw [wb_w91n hp hv, Option.bind_some, wb_elr]
    · unfold w125
      rw [wb_pf, Option.bind_some, wb_w96n hp (wb_rgd (by decide)) (wb_rgd (by decide)) hv, Option.bind_some, wb_r1 (by decide), Option.bind_some, if_pos rfl, wb_w97, Option.bind_some]
theorem wb_op_speed {T Tm : sw_T} {N p q : Int} (h : wb_R T Tm N) (hp : wb_rg p) (hq : wb_rg q) : wb_res (w170 T p q) (w126 Tm p q) T Tm N := by
  have h1 : 2 ≤ T 1 1 ∧ T 1 1 ≤ 7 := h.1.1.1.2.1.2.1
  have h0 := wb_R_k (k := 0) (v := 0) h (by decide)
  have m4 : sw_up Tm 221 0 0 222 4 = T 1 1 := (wb_rd_sc h0.1.2 h1.1).2.1
  by_cases hw : 0 ≤ p ∧ p < T 1 1
  · by_cases hv : 1 ≤ q ∧ q ≤ 9
    · obtain ⟨T1, Tm1, e1, e2, R1, s⟩ := wb_save h0
      have hs1 : T1 1 = T 1 := s.1 1 (by decide)
      obtain ⟨g1, g2, g3, g4, g5⟩ := wb_w27_ok (N := N) (w := p) (v := q) R1.1.1.1 R1.1.2 (by rw [hs1]; exact hw) hv
      have hb := (R1.1.1.1.2.2.1 p ⟨hw.1, by omega⟩).1
      refine wb_res_do (v := T1 (1 + 2) p) R1 s (wb_fc.rf.up (by decide)) wb_fm.rf.up (Int.le_refl _) ⟨g5, by rw [sw_up_ne (by decide)]; exact R1.1.1.2⟩ g4 (wb_h170 ?_ ⟨by omega, by omega⟩) ?_ ⟨by omega, by omega⟩
      · unfold w60
        rw [wb_w90y h1 hw, Option.bind_some, wb_eli, wb_w91y hv, Option.bind_some, wb_eli, e1, Option.bind_some, g1, Option.bind_some]
      · unfold w126
        rw [wb_pf, Option.bind_some, wb_w104y m4 h1 hw, Option.bind_some, wb_r1 (by decide), Option.bind_some, if_neg (by decide), wb_w96y (wb_rgd (by decide)) (wb_rgd (by decide)) hv, Option.bind_some, wb_r1 (by decide), Option.bind_some, if_neg (by decide), e2, Option.bind_some, wb_w98 ⟨hw.1, by omega⟩ (by decide), Option.bind_some, g2, g3, Option.bind_some]
    · refine wb_res_no (k := 2) (wb_t170_0 ?_) ?_ ⟨wb_rgd (by decide), by decide⟩ h
      · unfold w60
        rw [wb_w90y h1 hw, Option.bind_some, wb_eli, wb_w91n hq hv, Option.bind_some, wb_elr]
      · unfold w126
        rw [wb_pf, Option.bind_some, wb_w104y m4 h1 hw, Option.bind_some, wb_r1 (by decide), Option.bind_some, if_neg (by decide), wb_w96n hq (wb_rgd (by decide)) (wb_rgd (by decide)) hv, Option.bind_some, wb_r1 (by decide), Option.bind_some, if_pos rfl, wb_w97, Option.bind_some]
  · refine wb_res_no (k := 1) (wb_t170_2 ?_) ?_ ⟨wb_rgd (by decide), by decide⟩ h
    · unfold w60
      rw [wb_w90n h1 hp hw, Option.bind_some, wb_elr]
    · unfold w126
      rw [wb_pf, Option.bind_some, wb_w104n m4 h1 hp hw, Option.bind_some, wb_r1 (by decide), Option.bind_some, if_pos rfl, wb_w97, Option.bind_some]
theorem wb_op_lay {T Tm : sw_T} {N p q : Int} (h : wb_R T Tm N) (hp : wb_rg p) (hq : wb_rg q) : wb_res (w171 T p q) (w128 Tm p q) T Tm N := by
  have h1 : 2 ≤ T 1 1 ∧ T 1 1 ≤ 7 := h.1.1.1.2.1.2.1
  have hc : 0 ≤ T (1 + 20) 0 ∧ T (1 + 20) 0 ≤ 120 := h.1.1.1.2.1.2.2.2.2
  have h0 := wb_R_k (k := 0) (v := 0) h (by decide)
  have m4 : sw_up Tm 221 0 0 222 4 = T 1 1 := (wb_rd_sc h0.1.2 h1.1).2.1
  by_cases hw : 0 ≤ p ∧ p < T 1 1
  · by_cases hv : 1 ≤ q ∧ q ≤ 99
    · obtain ⟨l1, l2⟩ := wb_w29 h0.1.1.1 h0.1.2 hw
      by_cases hl : T (1 + 11) p < 16 ∧ T (1 + 20) 0 < 120
      · rw [if_pos hl] at l1 l2
        obtain ⟨T1, Tm1, e1, e2, R1, s⟩ := wb_save h0
        have hs1 : T1 1 = T 1 := s.1 1 (by decide)
        have hs12 : T1 (1 + 11) = T (1 + 11) := s.1 _ (by decide)
        have hs21 : T1 (1 + 20) = T (1 + 20) := s.1 _ (by decide)
        have hw1 : 0 ≤ p ∧ p < T1 1 1 := by rw [hs1]; exact hw
        have hh := (R1.1.1.1.2.2.1 p ⟨hw.1, by omega⟩).2.2.2.2.2.2.2
        obtain ⟨g1, Tm2, g2, g3, g4⟩ := wb_com_ok (w := p) (k := q) R1.1.2 (by rw [hs1]; exact h1) (fun w hw => (R1.1.1.1.2.2.1 w hw).2.2.2.1) (by rw [hs21]; exact ⟨hc.1, hl.2⟩) hw1 ⟨hh.1, by rw [hs12]; exact hl.1⟩
        have g5 := wb_com_iv (k := q) R1.1.1.1 hw1 ⟨by omega, hv.2⟩ (by rw [hs21]; exact hl.2) (by rw [hs12]; exact hl.1)
        refine wb_res_do (v := T1 (1 + 20) 0) R1 s (wb_com_fc ⟨hw.1, by omega⟩) g4 (Int.le_refl _) ⟨g5, by rw [wb_com_sm.1]; exact R1.1.1.2⟩ g3 (wb_h171 ?_ ⟨by rw [hs21]; omega, by rw [hs21]; omega⟩) ?_ ⟨by rw [hs21]; omega, by rw [hs21]; omega⟩
        · unfold w61
          rw [wb_w90y h1 hw, Option.bind_some, wb_eli, wb_r2 ⟨by omega, by omega⟩ (by decide), Option.bind_some, if_neg (by omega), wb_r2 ⟨by omega, by omega⟩ (by decide), Option.bind_some, if_neg (by omega), l1, Option.bind_some, wb_r1 (by decide), Option.bind_some, if_neg (by decide), e1, Option.bind_some, g1, Option.bind_some]
        · unfold w128
          rw [wb_pf, Option.bind_some, wb_w104y m4 h1 hw, Option.bind_some, wb_r1 (by decide), Option.bind_some, if_neg (by decide), wb_w96y (wb_rgd (by decide)) (wb_rgd (by decide)) hv, Option.bind_some, wb_r1 (by decide), Option.bind_some, if_neg (by decide), l2, Option.bind_some, wb_r1 (by decide), Option.bind_some, if_neg (by decide), e2, Option.bind_some, g2, Option.bind_some]
      · rw [if_neg hl] at l1 l2
        refine wb_res_no (k := 3) (wb_t171_1 ?_) ?_ ⟨wb_rgd (by decide), by decide⟩ h
        · unfold w61
          rw [wb_w90y h1 hw, Option.bind_some, wb_eli, wb_r2 ⟨by omega, by omega⟩ (by decide), Option.bind_some, if_neg (by omega), wb_r2 ⟨by omega, by omega⟩ (by decide), Option.bind_some, if_neg (by omega), l1, Option.bind_some, wb_r1 (by decide), Option.bind_some, if_pos rfl]
        · unfold w128
          rw [wb_pf, Option.bind_some, wb_w104y m4 h1 hw, Option.bind_some, wb_r1 (by decide), Option.bind_some, if_neg (by decide), wb_w96y (wb_rgd (by decide)) (wb_rgd (by decide)) hv, Option.bind_some, wb_r1 (by decide), Option.bind_some, if_neg (by decide), l2, Option.bind_some, wb_r1 (by decide), Option.bind_some, if_pos rfl, wb_w97, Option.bind_some]
    · refine wb_res_no (k := 2) (wb_t171_0 ?_) ?_ ⟨wb_rgd (by decide), by decide⟩ h
      · unfold w61
        rw [wb_w90y h1 hw, Option.bind_some, wb_eli, wb_r2 hq (by decide), Option.bind_some]
        by_cases hq1 : q < 1
        · rw [if_pos hq1]
        · rw [if_neg hq1, wb_r2 hq (by decide), Option.bind_some, if_pos (by omega)]
      · unfold w128
        rw [wb_pf, Option.bind_some, wb_w104y m4 h1 hw, Option.bind_some, wb_r1 (by decide), Option.bind_some, if_neg (by decide), wb_w96n hq (wb_rgd (by decide)) (wb_rgd (by decide)) hv, Option.bind_some, wb_r1 (by decide), Option.bind_some, if_pos rfl, wb_w97, Option.bind_some]
  · refine wb_res_no (k := 1) (wb_t171_2 ?_) ?_ ⟨wb_rgd (by decide), by decide⟩ h
    · unfold w61
      rw [wb_w90n h1 hp hw, Option.bind_some, wb_elr]
    · unfold w128
      rw [wb_pf, Option.bind_some, wb_w104n m4 h1 hp hw, Option.bind_some, wb_r1 (by decide), Option.bind_some, if_pos rfl, wb_w97, Option.bind_some]
theorem wb_op_wake {T Tm : sw_T} {N p : Int} (h : wb_R T Tm N) (hp : wb_rg p) : wb_res (w172 T p) (w130 Tm p) T Tm N := by
  have h1 : 2 ≤ T 1 1 ∧ T 1 1 ≤ 7 := h.1.1.1.2.1.2.1
  have h0 := wb_R_k (k := 0) (v := 0) h (by decide)
  have m4 : sw_up Tm 221 0 0 222 4 = T 1 1 := (wb_rd_sc h0.1.2 h1.1).2.1
  by_cases hw : 0 ≤ p ∧ p < T 1 1
  · obtain ⟨T1, Tm1, e1, e2, R1, s⟩ := wb_save h0
    have hs1 : T1 1 = T 1 := s.1 1 (by decide)
    obtain ⟨g1, g2, Tm2, g3, g4, g5⟩ := wb_rou_ok (N := N) (w := p) R1.1.1.1 R1.1.2 (by rw [hs1]; exact hw)
    have hb := (R1.1.1.1.2.2.1 p ⟨hw.1, by omega⟩).2.2.2.1
    refine wb_res_do (v := T1 (1 + 5) p) R1 s ?_ g5 (Int.le_refl _) ⟨g2, ?_⟩ g4 (wb_h172 ?_ ⟨by omega, by omega⟩) ?_ ⟨by omega, by omega⟩
    · unfold wb_rou
      exact (wb_fc.rf.up (by decide)).up (by decide)
    · unfold wb_rou
      rw [sw_up_ne (by decide), sw_up_ne (by decide)]
      exact R1.1.1.2
    · unfold w62
      rw [wb_w90y h1 hw, Option.bind_some, wb_eli, e1, Option.bind_some, g1, Option.bind_some]
    · unfold w130
      rw [wb_pf, Option.bind_some, wb_w104y m4 h1 hw, Option.bind_some, wb_r1 (by decide), Option.bind_some, if_neg (by decide), e2, Option.bind_some, g3, Option.bind_some]
  · refine wb_res_no (k := 1) (wb_t172_2 ?_) ?_ ⟨wb_rgd (by decide), by decide⟩ h
    · unfold w62
      rw [wb_w90n h1 hp hw, Option.bind_some, wb_elr]
    · unfold w130
      rw [wb_pf, Option.bind_some, wb_w104n m4 h1 hp hw, Option.bind_some, wb_r1 (by decide), Option.bind_some, if_pos rfl, wb_w97, Option.bind_some]
theorem wb_w121_6 {T Tm : sw_T} {b : Nat} {N : Int} (I : wb_iv T b N) (R : wb_rp T b (Tm 222)) : w121 Tm 4 = some (wb_s7 (T (b + 6))) := wb_w121_ok I R 6 (by decide) (fun w hw => (I.2.2.2.1 w hw).2.2.2.1)
theorem wb_op_pass {T Tm : sw_T} {N p : Int} (h : wb_R T Tm N) (hp : wb_rg p) : wb_res (w173 T p) (w131 Tm p) T Tm (N + 800) := by
  have h0 := wb_R_k (k := 0) (v := 0) h (by decide)
  have hle : wb_R T Tm (N + 800) := wb_R_room h (by omega) (fun _ _ => rfl) ⟨rfl, rfl, rfl, rfl, rfl, rfl, rfl⟩ (wb_iw_le h.1.1 (by omega)) h.1.2
  by_cases hv : 1 ≤ p ∧ p ≤ 99
  · obtain ⟨T1, Tm1, e1, e2, R1, s⟩ := wb_save h0
    obtain ⟨T2, Tm2, g1, g2, g3, g4, g5, g6, g7, g8⟩ := wb_pass (c := p) (N := N) ⟨by omega, by omega⟩ R1.1.1.1 R1.1.2 R1.2.2.2.2
    have b1 := wb_s7_sewn R1.1.1.1
    have b2 := wb_s7_sewn g3
    have c1 := R1.1.1.1.2.1.2.2.2.2
    have c2 := g3.2.1.2.2.2.2
    refine wb_res_do (v := wb_s7 (T2 (1 + 6)) - wb_s7 (T1 (1 + 6))) R1 s g5 g6 (by omega) ⟨wb_iv_le g3 (by omega), by rw [g7]; exact R1.1.1.2⟩ g4 (wb_h173 ?_ ⟨by omega, by omega⟩) ?_ ⟨by omega, by omega⟩
    · unfold w63
      rw [wb_r2 ⟨by omega, by omega⟩ (by decide), Option.bind_some, if_neg (by omega), wb_r2 ⟨by omega, by omega⟩ (by decide), Option.bind_some, if_neg (by omega), e1, Option.bind_some, wb_w45 R1.1.1.1, Option.bind_some, g1, Option.bind_some, wb_w45 g3, Option.bind_some]
    · unfold w131
      rw [wb_pf, Option.bind_some, wb_w96y (wb_rgd (by decide)) (wb_rgd (by decide)) hv, Option.bind_some, wb_r1 (by decide), Option.bind_some, if_neg (by decide), e2, Option.bind_some, wb_w121_6 R1.1.1.1 R1.1.2, Option.bind_some, g2, Option.bind_some, wb_w121_6 g3 g4, Option.bind_some]
  · refine wb_res_no (k := 1) (wb_t173_0 ?_) ?_ ⟨wb_rgd (by decide), by decide⟩ hle
    · unfold w63
      rw [wb_r2 hp (by decide), Option.bind_some]
      by_cases h1 : p < 1
      · rw [if_pos h1]
      · rw [if_neg h1, wb_r2 hp (by decide), Option.bind_some, if_pos (by omega)]
    · unfold w131
      rw [wb_pf, Option.bind_some, wb_w96n hp (wb_rgd (by decide)) (wb_rgd (by decide)) hv, Option.bind_some, wb_r1 (by decide), Option.bind_some, if_pos rfl, wb_w97, Option.bind_some]
