/-! ===== the looks ===== -/
theorem wb_res_lk {F G : Option (Int × sw_T)} {T Tm : sw_T} {N v : Int} (h : wb_R T Tm N) (eF : F = some (0, sw_up T 228 0 v)) (eG : G = some (v, sw_up Tm 221 0 0)) (hv : wb_rg v) : wb_res F G T Tm N := wb_res_ok eF eG hv (by rw [wb_rdu, if_pos rfl, if_pos rfl]) (fun _ _ => rfl) (fun a ha => sw_up_ne (by omega)) (wb_R_k h (by decide))
theorem wb_s7_le {f : Int → Int} (h : ∀ w, 0 ≤ w ∧ w < 7 → 0 ≤ f w) {w : Int} (hw : 0 ≤ w ∧ w < 7) : f w ≤ wb_s7 f := by
  have h0 := h 0 (by decide)
  have h1 := h 1 (by decide)
  have h2 := h 2 (by decide)
  have h3 := h 3 (by decide)
  have h4 := h 4 (by decide)
  have h5 := h 5 (by decide)
  have h6 := h 6 (by decide)
  unfold wb_s7
  rcases wb_seat hw with rfl | rfl | rfl | rfl | rfl | rfl | rfl <;> omega
theorem wb_s7_bd {f : Int → Int} {m : Int} (h : ∀ w, 0 ≤ w ∧ w < 7 → 0 ≤ f w ∧ f w ≤ m) : 0 ≤ wb_s7 f ∧ wb_s7 f ≤ 7 * m := by
  have h0 := h 0 (by decide)
  have h1 := h 1 (by decide)
  have h2 := h 2 (by decide)
  have h3 := h 3 (by decide)
  have h4 := h 4 (by decide)
  have h5 := h 5 (by decide)
  have h6 := h 6 (by decide)
  unfold wb_s7
  omega
theorem wb_s7_took {T : sw_T} {b : Nat} {N : Int} (I : wb_iv T b N) : (0 ≤ wb_s7 (T (b + 7)) ∧ wb_s7 (T (b + 7)) ≤ T b 2) ∧ T b 2 ≤ 120 := by
  have hc := I.2.1.2.2.2.2
  have h := I.2.2.2.2.2.2.2.2.2.2
  have h0 : ∀ w, 0 ≤ w ∧ w < 7 → 0 ≤ T (b + 7) w := fun w hw => (I.2.2.1 w hw).2.2.2.2.1.2
  have h1 : ∀ w, 0 ≤ w ∧ w < 7 → 0 ≤ T (b + 11) w := fun w hw => (I.2.2.1 w hw).2.2.2.2.2.2.2.1
  have a := wb_s7_le h0 (w := 0) (by decide)
  have a0 := h0 0 (by decide)
  have c := wb_s7_le h1 (w := 0) (by decide)
  have c0 := h1 0 (by decide)
  omega
/-- a number of hers -/
theorem wb_tells {T Tm : sw_T} {b : Nat} {N w q : Int} (I : wb_iv T b N) (R : wb_rp T b (Tm 222)) (hw : 0 ≤ w ∧ w < T b 1) (hq : 0 ≤ q ∧ q ≤ 9) (hN : N ≤ 100000000) : ∃ v, w42 b T w q = some v ∧ w147 Tm w q = some v ∧ wb_rg v := by
  have h1 : 2 ≤ T b 1 ∧ T b 1 ≤ 7 := I.2.1.2.1
  have hc := I.2.1.2.2.2.2
  have hw7 : 0 ≤ w ∧ w < 7 := ⟨hw.1, by omega⟩
  have hw7' : 0 ≤ w ∧ w < ((7 : Nat) : Int) := ⟨hw.1, by omega⟩
  have hwy := wb_w25y (b := b) h1 hw
  obtain ⟨s2, s3, s4, s5, s6, s8, s9, s11⟩ := I.2.2.1 w hw7
  have e : q = 0 ∨ q = 1 ∨ q = 2 ∨ q = 3 ∨ q = 4 ∨ q = 5 ∨ q = 6 ∨ q = 7 ∨ q = 8 ∨ q = 9 := by omega
  rcases e with rfl | rfl | rfl | rfl | rfl | rfl | rfl | rfl | rfl | rfl
  · have e1 : w42 b T w 0 = (sw_ld T (b + 2) 7 w).bind fun v => some v := by
      unfold w42
      rw [hwy]
      rfl
    have e2 : w147 Tm w 0 = (w98 Tm w 0).bind fun v => some v := rfl
    have m : Tm 222 (8 + 9 * w + 0) = T (b + 2) w := wb_rd_st R h1.2 hw 2 (by decide)
    refine ⟨T (b + 2) w, ?_, ?_, ⟨by omega, by omega⟩⟩
    · rw [e1, wb_ld hw7', Option.bind_some]
    · rw [e2, wb_w98 hw7 (by decide), Option.bind_some, m]
  · have e1 : w42 b T w 1 = (w18 b T w).bind fun v => some v := by
      unfold w42
      rw [hwy]
      rfl
    have e2 : w147 Tm w 1 = (w98 Tm w 8).bind fun v => some v := rfl
    refine ⟨T (b + 11) w, ?_, ?_, ⟨by omega, by omega⟩⟩
    · rw [e1, wb_w18 hw7, Option.bind_some]
    · rw [e2, wb_w98 hw7 (by decide), Option.bind_some, wb_rd_hgt R h1.2 hw]
  · have e1 : w42 b T w 2 = (sw_ld T (b + 3) 7 w).bind fun v => some v := by
      unfold w42
      rw [hwy]
      rfl
    have e2 : w147 Tm w 2 = (w98 Tm w 1).bind fun v => some (v - 1) := rfl
    refine ⟨T (b + 3) w, ?_, ?_, ⟨by omega, by omega⟩⟩
    · rw [e1, wb_ld hw7', Option.bind_some]
    · rw [e2, wb_w98 hw7 (by decide), Option.bind_some, wb_rd_hd R h1.2 hw, show T (b + 3) w + 1 - 1 = T (b + 3) w by omega]
  · have e1 : w42 b T w 3 = (sw_ld T (b + 4) 7 w).bind fun v => some v := by
      unfold w42
      rw [hwy]
      rfl
    have e2 : w147 Tm w 3 = (w98 Tm w 2).bind fun v => some v := rfl
    have m : Tm 222 (8 + 9 * w + 2) = T (b + 4) w := wb_rd_st R h1.2 hw 4 (by decide)
    refine ⟨T (b + 4) w, ?_, ?_, ⟨by omega, by omega⟩⟩
    · rw [e1, wb_ld hw7', Option.bind_some]
    · rw [e2, wb_w98 hw7 (by decide), Option.bind_some, m]
  · have e1 : w42 b T w 4 = (sw_ld T (b + 5) 7 w).bind fun v20 => (sw_r1 v20).bind fun _u => if v20 = 0 then some 0 else some 1 := by
      unfold w42
      rw [hwy]
      rfl
    have e2 : w147 Tm w 4 = (w98 Tm w 3).bind fun v => some v := rfl
    have m : Tm 222 (8 + 9 * w + 3) = T (b + 5) w := wb_rd_st R h1.2 hw 5 (by decide)
    refine ⟨T (b + 5) w, ?_, ?_, ⟨by omega, by omega⟩⟩
    · rw [e1, wb_ld hw7', Option.bind_some, wb_r1 ⟨by omega, by omega⟩, Option.bind_some]
      rcases s5 with g | g
      · rw [g, if_pos rfl]
      · rw [g, if_neg (by decide)]
    · rw [e2, wb_w98 hw7 (by decide), Option.bind_some, m]
  · have e1 : w42 b T w 5 = (sw_ld T (b + 6) 7 w).bind fun v => some v := by
      unfold w42
      rw [hwy]
      rfl
    have e2 : w147 Tm w 5 = (w98 Tm w 4).bind fun v => some v := rfl
    have m : Tm 222 (8 + 9 * w + 4) = T (b + 6) w := wb_rd_st R h1.2 hw 6 (by decide)
    refine ⟨T (b + 6) w, ?_, ?_, ⟨by omega, by have := wb_s7_le (f := T (b + 6)) (fun w hw => (I.2.2.1 w hw).2.2.2.2.1.1) hw7; have := wb_s7_sewn I; omega⟩⟩
    · rw [e1, wb_ld hw7', Option.bind_some]
    · rw [e2, wb_w98 hw7 (by decide), Option.bind_some, m]
  · have e1 : w42 b T w 6 = (sw_ld T (b + 7) 7 w).bind fun v => some v := by
      unfold w42
      rw [hwy]
      rfl
    have e2 : w147 Tm w 6 = (w98 Tm w 5).bind fun v => some v := rfl
    have m : Tm 222 (8 + 9 * w + 5) = T (b + 7) w := wb_rd_st R h1.2 hw 7 (by decide)
    refine ⟨T (b + 7) w, ?_, ?_, ⟨by omega, by have := wb_s7_le (f := T (b + 7)) (fun w hw => (I.2.2.1 w hw).2.2.2.2.1.2) hw7; have := wb_s7_took I; omega⟩⟩
    · rw [e1, wb_ld hw7', Option.bind_some]
    · rw [e2, wb_w98 hw7 (by decide), Option.bind_some, m]
  · have e1 : w42 b T w 7 = (sw_ld T (b + 8) 7 w).bind fun v => some v := by
      unfold w42
      rw [hwy]
      rfl
    have e2 : w147 Tm w 7 = (w98 Tm w 6).bind fun v => some v := rfl
    have m : Tm 222 (8 + 9 * w + 6) = T (b + 8) w := wb_rd_st R h1.2 hw 8 (by decide)
    refine ⟨T (b + 8) w, ?_, ?_, ⟨by omega, by omega⟩⟩
    · rw [e1, wb_ld hw7', Option.bind_some]
    · rw [e2, wb_w98 hw7 (by decide), Option.bind_some, m]
  · have e1 : w42 b T w 8 = (sw_ld T (b + 9) 7 w).bind fun v => some v := by
      unfold w42
      rw [hwy]
      rfl
    have e2 : w147 Tm w 8 = (w98 Tm w 7).bind fun v => some v := rfl
    have m : Tm 222 (8 + 9 * w + 7) = T (b + 9) w := wb_rd_st R h1.2 hw 9 (by decide)
    refine ⟨T (b + 9) w, ?_, ?_, ⟨by omega, by omega⟩⟩
    · rw [e1, wb_ld hw7', Option.bind_some]
    · rw [e2, wb_w98 hw7 (by decide), Option.bind_some, m]
  · have e1 : w42 b T w 9 = (w44 b T w).bind fun v => some v := by
      unfold w42
      rw [hwy]
      rfl
    have e2 : w147 Tm w 9 = (w146 Tm w).bind fun v => some v := rfl
    obtain ⟨v, g1, g2, g3, g4⟩ := wb_load I R hw
    refine ⟨v, ?_, ?_, ⟨by omega, by omega⟩⟩
    · rw [e1, g1, Option.bind_some]
    · rw [e2, g2, Option.bind_some]
/-- a number of the room's -/
theorem wb_cnt {T Tm : sw_T} {b : Nat} {N q : Int} (I : wb_iv T b N) (R : wb_rp T b (Tm 222)) (hq : 0 ≤ q ∧ q ≤ 10) (hN : N ≤ 100000000) : ∃ v, w43 b T q = some v ∧ w151 Tm q = some v ∧ wb_rg v := by
  have h1 : 2 ≤ T b 1 ∧ T b 1 ≤ 7 := I.2.1.2.1
  have hc := I.2.1.2.2.2.2
  have h0 := I.2.1.1
  have h3 := I.2.1.2.2.2.1
  obtain ⟨j1, j2, j3, -, -⟩ := I.2.2.2.2.2.2.2
  obtain ⟨m3, m4, m5, m6, m7⟩ := wb_rd_sc R h1.1
  have hct : ∀ c, 0 ≤ wb_ct (T (b + 22)) c (T (b + 20) 0).toNat ∧ wb_ct (T (b + 22)) c (T (b + 20) 0).toNat ≤ (T (b + 20) 0).toNat := fun c => wb_ct_le _
  have e : q = 0 ∨ q = 1 ∨ q = 2 ∨ q = 3 ∨ q = 4 ∨ q = 5 ∨ q = 6 ∨ q = 7 ∨ q = 8 ∨ q = 9 ∨ q = 10 := by omega
  rcases e with rfl | rfl | rfl | rfl | rfl | rfl | rfl | rfl | rfl | rfl | rfl
  · have e2 : w151 Tm 0 = (sw_ld Tm 222 543 3).bind fun v => some v := rfl
    refine ⟨T b 0, rfl, ?_, ⟨by omega, by omega⟩⟩
    rw [e2, wb_ld (by decide), Option.bind_some, m3]
  · have e2 : w151 Tm 1 = (sw_ld Tm 222 543 4).bind fun v => some v := rfl
    refine ⟨T b 1, rfl, ?_, ⟨by omega, by omega⟩⟩
    rw [e2, wb_ld (by decide), Option.bind_some, m4]
  · have e2 : w151 Tm 2 = (sw_ld Tm 222 543 5).bind fun v => some v := rfl
    refine ⟨T (b + 20) 0, rfl, ?_, ⟨by omega, by omega⟩⟩
    rw [e2, wb_ld (by decide), Option.bind_some, m5]
  · have e1 : w43 b T 3 = (w45 b T).bind fun v => some v := rfl
    have e2 : w151 Tm 3 = (w123 Tm 2).bind fun v => some v := rfl
    have := hct 2
    refine ⟨wb_s7 (T (b + 6)), ?_, ?_, ⟨by omega, by omega⟩⟩
    · rw [e1, wb_w45 I, Option.bind_some]
    · rw [e2, wb_w123 I R (by decide), Option.bind_some, j3]
  · have e1 : w43 b T 4 = (w48 b (b + 11) T).bind fun v => some v := rfl
    have e2 : w151 Tm 4 = (w123 Tm 0).bind fun v => some v := rfl
    have := hct 0
    refine ⟨wb_s7 (T (b + 11)), ?_, ?_, ⟨by omega, by omega⟩⟩
    · rw [e1, wb_w48 (r := b + 11) h1 (fun w hw => (I.2.2.2.1 w hw).2.2.2.2.2.2.2), Option.bind_some]
    · rw [e2, wb_w123 I R (by decide), Option.bind_some, j1]
  · have e1 : w43 b T 5 = (w46 b T).bind fun v => some v := rfl
    have e2 : w151 Tm 5 = (w123 Tm 1).bind fun v => some v := rfl
    have := hct 1
    refine ⟨wb_s7 (wb_hd T b), ?_, ?_, ⟨by omega, by omega⟩⟩
    · rw [e1, wb_w46 I, Option.bind_some]
    · rw [e2, wb_w123 I R (by decide), Option.bind_some, j2]
  · have e1 : w43 b T 6 = (w48 b (b + 7) T).bind fun v => some v := rfl
    have e2 : w151 Tm 6 = (w121 Tm 5).bind fun v => some v := rfl
    have g0 : ∀ w, T b 1 ≤ w ∧ w < 7 → T (b + 7) w = 0 := fun w hw => (I.2.2.2.1 w hw).2.2.2.2.1
    have m : w121 Tm 5 = some (wb_s7 (T (b + 7))) := wb_w121_ok I R 7 (by decide) g0
    have := wb_s7_took I
    refine ⟨wb_s7 (T (b + 7)), ?_, ?_, ⟨by omega, by omega⟩⟩
    · rw [e1, wb_w48 (r := b + 7) h1 g0, Option.bind_some]
    · rw [e2, m, Option.bind_some]
  · have e1 : w43 b T 7 = (w48 b (b + 9) T).bind fun v => some v := rfl
    have e2 : w151 Tm 7 = (w121 Tm 7).bind fun v => some v := rfl
    have g0 : ∀ w, T b 1 ≤ w ∧ w < 7 → T (b + 9) w = 0 := fun w hw => (I.2.2.2.1 w hw).2.2.2.2.2.2.1
    have m : w121 Tm 7 = some (wb_s7 (T (b + 9))) := wb_w121_ok I R 9 (by decide) g0
    have := wb_s7_bd (f := T (b + 9)) (m := N) (fun w hw => (I.2.2.1 w hw).2.2.2.2.2.2.1)
    refine ⟨wb_s7 (T (b + 9)), ?_, ?_, ⟨by omega, by omega⟩⟩
    · rw [e1, wb_w48 (r := b + 9) h1 g0, Option.bind_some]
    · rw [e2, m, Option.bind_some]
  · have e2 : w151 Tm 8 = (sw_ld Tm 222 543 6).bind fun v => some v := rfl
    refine ⟨T b 3, rfl, ?_, ⟨by omega, by omega⟩⟩
    rw [e2, wb_ld (by decide), Option.bind_some, m6]
  · have e1 : w43 b T 9 = (w47 b T).bind fun v => some v := rfl
    have e2 : w151 Tm 9 = (w121 Tm 3).bind fun v => some v := rfl
    have g0 : ∀ w, T b 1 ≤ w ∧ w < 7 → T (b + 5) w = 0 := fun w hw => (I.2.2.2.1 w hw).2.2.1
    have m : w121 Tm 3 = some (wb_s7 (T (b + 5))) := wb_w121_ok I R 5 (by decide) g0
    have := wb_s7_bd (f := T (b + 5)) (m := 1) (fun w hw => by have := (I.2.2.1 w hw).2.2.2.1; omega)
    refine ⟨wb_s7 (T (b + 5)), ?_, ?_, ⟨by omega, by omega⟩⟩
    · rw [e1, wb_w47 I, Option.bind_some]
    · rw [e2, m, Option.bind_some]
  · have e1 : w43 b T 10 = (w57 b T).bind fun v => some v := rfl
    have e2 : w151 Tm 10 = (w122 Tm).bind fun v => some v := rfl
    obtain ⟨v, g1, g2, g3, g4⟩ := wb_left I R
    refine ⟨v, ?_, ?_, ⟨by omega, by omega⟩⟩
    · rw [e1, g1, Option.bind_some]
    · rw [e2, g2, Option.bind_some]
/-- a shirt's number -/
theorem wb_sh3 {T Tm : sw_T} {b : Nat} {N s q : Int} (I : wb_iv T b N) (R : wb_rp T b (Tm 222)) (hs : 0 ≤ s ∧ s < T (b + 20) 0) (hq : 0 ≤ q ∧ q < 3) : ∃ v, w56 b T s q = some v ∧ Tm 222 (183 + 3 * s + q) = v ∧ wb_rg v := by
  have hc := I.2.1.2.2.2.2
  obtain ⟨p1, p2, p3⟩ := I.2.2.2.2.2.2.1 s hs
  have hs' : 0 ≤ s ∧ s < ((120 : Nat) : Int) := ⟨hs.1, by omega⟩
  have hsy := wb_w51y hc hs
  have e : q = 0 ∨ q = 1 ∨ q = 2 := by omega
  rcases e with rfl | rfl | rfl
  · have e1 : w56 b T s 0 = (sw_ld T (b + 21) 120 s).bind fun v => some v := by
      unfold w56
      rw [hsy]
      rfl
    refine ⟨T (b + 21) s, ?_, wb_rd_shirt R hs 21 (by decide), ⟨by omega, by omega⟩⟩
    rw [e1, wb_ld hs', Option.bind_some]
  · have e1 : w56 b T s 1 = (sw_ld T (b + 22) 120 s).bind fun v => some v := by
      unfold w56
      rw [hsy]
      rfl
    refine ⟨T (b + 22) s, ?_, wb_rd_shirt R hs 22 (by decide), ⟨by omega, by omega⟩⟩
    rw [e1, wb_ld hs', Option.bind_some]
  · have e1 : w56 b T s 2 = (sw_ld T (b + 23) 120 s).bind fun v => some v := by
      unfold w56
      rw [hsy]
      rfl
    refine ⟨T (b + 23) s, ?_, wb_rd_shirt R hs 23 (by decide), ⟨by omega, by omega⟩⟩
    rw [e1, wb_ld hs', Option.bind_some]
theorem wb_op_seam {T Tm : sw_T} {N p q : Int} (h : wb_R T Tm N) (hN : N ≤ 100000000) (hp : wb_rg p) (hq : wb_rg q) : wb_res (w179 T p q) (w148 Tm p q) T Tm N := by
  have h1 : 2 ≤ T 1 1 ∧ T 1 1 ≤ 7 := h.1.1.1.2.1.2.1
  have h0 := wb_R_k (k := 0) (v := 0) h (by decide)
  have m4 : sw_up Tm 221 0 0 222 4 = T 1 1 := (wb_rd_sc h0.1.2 h1.1).2.1
  by_cases hw : 0 ≤ p ∧ p < T 1 1
  · by_cases hv : 0 ≤ q ∧ q ≤ 9
    · obtain ⟨v, g1, g2, g3⟩ := wb_tells h0.1.1.1 h0.1.2 hw hv hN
      refine wb_res_lk h (wb_h179 (v := v) ?_ g3) ?_ g3
      · unfold w72
        rw [wb_w90y h1 hw, Option.bind_some, wb_eli, wb_r1 hq, Option.bind_some, if_neg (by omega), wb_r2 hq (by decide), Option.bind_some, if_pos (by omega), g1, Option.bind_some]
      · unfold w148
        rw [wb_pf, Option.bind_some, wb_w104y m4 h1 hw, Option.bind_some, wb_r1 (by decide), Option.bind_some, if_neg (by decide), wb_w96y (wb_rgd (by decide)) (wb_rgd (by decide)) hv, Option.bind_some, wb_r1 (by decide), Option.bind_some, if_neg (by decide), g2, Option.bind_some]
    · refine wb_res_no (k := 2) (wb_t179_0 ?_) ?_ ⟨wb_rgd (by decide), by decide⟩ h
      · unfold w72
        rw [wb_w90y h1 hw, Option.bind_some, wb_eli, wb_r1 hq, Option.bind_some]
        by_cases hq1 : q < 0
        · rw [if_pos hq1]
        · rw [if_neg hq1, wb_r2 hq (by decide), Option.bind_some, if_neg (by omega)]
      · unfold w148
        rw [wb_pf, Option.bind_some, wb_w104y m4 h1 hw, Option.bind_some, wb_r1 (by decide), Option.bind_some, if_neg (by decide), wb_w96n hq (wb_rgd (by decide)) (wb_rgd (by decide)) hv, Option.bind_some, wb_r1 (by decide), Option.bind_some, if_pos rfl, wb_w97, Option.bind_some]
  · refine wb_res_no (k := 1) (wb_t179_2 ?_) ?_ ⟨wb_rgd (by decide), by decide⟩ h
    · unfold w72
      rw [wb_w90n h1 hp hw, Option.bind_some, wb_elr]
    · unfold w148
      rw [wb_pf, Option.bind_some, wb_w104n m4 h1 hp hw, Option.bind_some, wb_r1 (by decide), Option.bind_some, if_pos rfl, wb_w97, Option.bind_some]
theorem wb_op_pile {T Tm : sw_T} {N p q : Int} (h : wb_R T Tm N) (hp : wb_rg p) (hq : wb_rg q) : wb_res (w180 T p q) (w149 Tm p q) T Tm N := by
  have h1 : 2 ≤ T 1 1 ∧ T 1 1 ≤ 7 := h.1.1.1.2.1.2.1
  have hc : 0 ≤ T (1 + 20) 0 ∧ T (1 + 20) 0 ≤ 120 := h.1.1.1.2.1.2.2.2.2
  have h0 := wb_R_k (k := 0) (v := 0) h (by decide)
  have m4 : sw_up Tm 221 0 0 222 4 = T 1 1 := (wb_rd_sc h0.1.2 h1.1).2.1
  by_cases hw : 0 ≤ p ∧ p < T 1 1
  · have hw7 : 0 ≤ p ∧ p < 7 := ⟨hw.1, by omega⟩
    have h16 := (h.1.1.1.2.2.1 p hw7).2.2.2.2.2.2.2
    have mh : sw_up Tm 221 0 0 222 (8 + 9 * p + 8) = T (1 + 11) p := wb_rd_hgt h0.1.2 h1.2 hw
    by_cases hv : 0 ≤ q
    · have e19 := wb_w19 (b := 1) (T := T) (w := p) (p := q) hw7 hq h16
      by_cases hl : 0 ≤ q ∧ q < T (1 + 11) p
      · have mp := wb_rd_pile h0.1.2 h1.2 hw hl h16.2
        have hs := (h.1.1.1.2.2.2.2.1 p q hw7 hl).1
        rw [if_pos hl] at e19
        refine wb_res_lk (v := wb_pi T 1 p q) h (wb_h180 ?_ ⟨by omega, by omega⟩) ?_ ⟨by omega, by omega⟩
        · unfold w73
          rw [wb_w90y h1 hw, Option.bind_some, wb_eli, wb_r1 hq, Option.bind_some, if_neg (by omega), e19, Option.bind_some]
        · unfold w149
          rw [wb_pf, Option.bind_some, wb_w104y m4 h1 hw, Option.bind_some, wb_r1 (by decide), Option.bind_some, if_neg (by decide), wb_r1 hq, Option.bind_some, if_neg (by omega), wb_w98 hw7 (by decide), Option.bind_some, mh, wb_r2 hq ⟨by omega, by omega⟩, Option.bind_some, if_pos hl.2, wb_w101 hw7 ⟨hv, by omega⟩, Option.bind_some, mp]
      · rw [if_neg hl] at e19
        refine wb_res_lk (v := -1) h (wb_h180 ?_ (wb_rgd (by decide))) ?_ (wb_rgd (by decide))
        · unfold w73
          rw [wb_w90y h1 hw, Option.bind_some, wb_eli, wb_r1 hq, Option.bind_some, if_neg (by omega), e19, Option.bind_some]
        · unfold w149
          rw [wb_pf, Option.bind_some, wb_w104y m4 h1 hw, Option.bind_some, wb_r1 (by decide), Option.bind_some, if_neg (by decide), wb_r1 hq, Option.bind_some, if_neg (by omega), wb_w98 hw7 (by decide), Option.bind_some, mh, wb_r2 hq ⟨by omega, by omega⟩, Option.bind_some, if_neg (by omega)]
    · refine wb_res_no (k := 2) (wb_t180_0 ?_) ?_ ⟨wb_rgd (by decide), by decide⟩ h
      · unfold w73
        rw [wb_w90y h1 hw, Option.bind_some, wb_eli, wb_r1 hq, Option.bind_some, if_pos (by omega)]
      · unfold w149
        rw [wb_pf, Option.bind_some, wb_w104y m4 h1 hw, Option.bind_some, wb_r1 (by decide), Option.bind_some, if_neg (by decide), wb_r1 hq, Option.bind_some, if_pos (by omega), wb_w97, Option.bind_some]
  · refine wb_res_no (k := 1) (wb_t180_2 ?_) ?_ ⟨wb_rgd (by decide), by decide⟩ h
    · unfold w73
      rw [wb_w90n h1 hp hw, Option.bind_some, wb_elr]
    · unfold w149
      rw [wb_pf, Option.bind_some, wb_w104n m4 h1 hp hw, Option.bind_some, wb_r1 (by decide), Option.bind_some, if_pos rfl, wb_w97, Option.bind_some]
theorem wb_op_shirt {T Tm : sw_T} {N p q : Int} (h : wb_R T Tm N) (hp : wb_rg p) (hq : wb_rg q) : wb_res (w181 T p q) (w150 Tm p q) T Tm N := by
  have h1 : 2 ≤ T 1 1 ∧ T 1 1 ≤ 7 := h.1.1.1.2.1.2.1
  have hc : 0 ≤ T 21 0 ∧ T 21 0 ≤ 120 := h.1.1.1.2.1.2.2.2.2
  have h0 := wb_R_k (k := 0) (v := 0) h (by decide)
  have m5 : sw_up Tm 221 0 0 222 5 = T 21 0 := (wb_rd_sc h0.1.2 h1.1).2.2.1
  by_cases hw : 0 ≤ p ∧ p < T 21 0
  · by_cases hv : 0 ≤ q ∧ q < 3
    · obtain ⟨v, g1, g2, g3⟩ := wb_sh3 h0.1.1.1 h0.1.2 hw hv
      refine wb_res_lk h (wb_h181 (v := v) ?_ g3) ?_ g3
      · unfold w74
        rw [wb_r1 hp, Option.bind_some, if_neg (by omega), wb_r2 hp ⟨by omega, by omega⟩, Option.bind_some, if_pos hw.2, wb_r1 hq, Option.bind_some, if_neg (by omega), wb_r2 hq (by decide), Option.bind_some, if_pos hv.2, g1, Option.bind_some]
      · unfold w150
        rw [wb_pf, Option.bind_some, wb_ld (by decide), Option.bind_some, m5, wb_w96y (wb_rgd (by decide)) (wb_rgd (by omega)) (by omega), Option.bind_some, wb_r1 (by decide), Option.bind_some, if_neg (by decide), wb_w96y (wb_rgd (by decide)) (wb_rgd (by decide)) (by omega), Option.bind_some, wb_r1 (by decide), Option.bind_some, if_neg (by decide), wb_w102 ⟨hw.1, by omega⟩ hv, Option.bind_some, g2]
    · refine wb_res_no (k := 2) (wb_t181_0 ?_) ?_ ⟨wb_rgd (by decide), by decide⟩ h
      · unfold w74
        rw [wb_r1 hp, Option.bind_some, if_neg (by omega), wb_r2 hp ⟨by omega, by omega⟩, Option.bind_some, if_pos hw.2, wb_r1 hq, Option.bind_some]
        by_cases hq1 : q < 0
        · rw [if_pos hq1]
        · rw [if_neg hq1, wb_r2 hq (by decide), Option.bind_some, if_neg (by omega)]
      · unfold w150
        rw [wb_pf, Option.bind_some, wb_ld (by decide), Option.bind_some, m5, wb_w96y (wb_rgd (by decide)) (wb_rgd (by omega)) (by omega), Option.bind_some, wb_r1 (by decide), Option.bind_some, if_neg (by decide), wb_w96n hq (wb_rgd (by decide)) (wb_rgd (by decide)) (by omega), Option.bind_some, wb_r1 (by decide), Option.bind_some, if_pos rfl, wb_w97, Option.bind_some]
  · refine wb_res_no (k := 1) (wb_t181_2 ?_) ?_ ⟨wb_rgd (by decide), by decide⟩ h
    · unfold w74
      rw [wb_r1 hp, Option.bind_some]
      by_cases hp1 : p < 0
      · rw [if_pos hp1]
      · rw [if_neg hp1, wb_r2 hp ⟨by omega, by omega⟩, Option.bind_some, if_neg (by omega)]
    · unfold w150
      rw [wb_pf, Option.bind_some, wb_ld (by decide), Option.bind_some, m5, wb_w96n hp (wb_rgd (by decide)) (wb_rgd (by omega)) (by omega), Option.bind_some, wb_r1 (by decide), Option.bind_some, if_pos rfl, wb_w97, Option.bind_some]
theorem wb_cnt_all {T Tm : sw_T} {N q : Int} (h : wb_R T Tm N) (hN : N ≤ 100000000) (hq : 0 ≤ q ∧ q ≤ 11) : ∃ v, w75 T q = some (.inl v) ∧ w151 Tm q = some v ∧ wb_rg v := by
  by_cases h11 : q = 11
  · subst h11
    obtain ⟨b1, b2, -⟩ := h.2.2.1
    refine ⟨T 73 1, ?_, ?_, ⟨by omega, by omega⟩⟩
    · unfold w75
      rw [wb_r1 (by decide), Option.bind_some, if_neg (by decide), wb_r2 (by decide) (by decide), Option.bind_some, if_pos (by decide), wb_r2 (by decide) (by decide), Option.bind_some, if_pos rfl]
    · rw [b1]
      rfl
  · obtain ⟨v, g1, g2, g3⟩ := wb_cnt h.1.1.1 h.1.2 (q := q) ⟨hq.1, by omega⟩ hN
    refine ⟨v, ?_, g2, g3⟩
    unfold w75
    rw [wb_r1 ⟨by omega, by omega⟩, Option.bind_some, if_neg (by omega), wb_r2 ⟨by omega, by omega⟩ (by decide), Option.bind_some, if_pos (by omega), wb_r2 ⟨by omega, by omega⟩ (by decide), Option.bind_some, if_neg h11, g1, Option.bind_some]
theorem wb_op_count {T Tm : sw_T} {N p : Int} (h : wb_R T Tm N) (hN : N ≤ 100000000) (hp : wb_rg p) : wb_res (w182 T p) (w152 Tm p) T Tm N := by
  have h0 := wb_R_k (k := 0) (v := 0) h (by decide)
  by_cases hv : 0 ≤ p ∧ p ≤ 11
  · obtain ⟨v, g1, g2, g3⟩ := wb_cnt_all h0 hN hv
    refine wb_res_lk h (wb_h182 (v := v) g1 g3) ?_ g3
    unfold w152
    rw [wb_pf, Option.bind_some, wb_w96y (wb_rgd (by decide)) (wb_rgd (by decide)) hv, Option.bind_some, wb_r1 (by decide), Option.bind_some, if_neg (by decide), g2, Option.bind_some]
  · refine wb_res_no (k := 1) (wb_t182_0 ?_) ?_ ⟨wb_rgd (by decide), by decide⟩ h
    · unfold w75
      rw [wb_r1 hp, Option.bind_some]
      by_cases hp1 : p < 0
      · rw [if_pos hp1]
      · rw [if_neg hp1, wb_r2 hp (by decide), Option.bind_some, if_neg (by omega)]
    · unfold w152
      rw [wb_pf, Option.bind_some, wb_w96n hp (wb_rgd (by decide)) (wb_rgd (by decide)) hv, Option.bind_some, wb_r1 (by decide), Option.bind_some, if_pos rfl, wb_w97, Option.bind_some]
theorem wb_stt {T Tm : sw_T} {N p : Int} (h : wb_R T Tm N) (hp : 0 ≤ p ∧ p < 3) : w76 T p = some (.inl (T 2 p)) ∧ sw_ld Tm 222 543 p = some (T 2 p) ∧ wb_rg (T 2 p) := by
  have h1 : 2 ≤ T 1 1 ∧ T 1 1 ≤ 7 := h.1.1.1.2.1.2.1
  have hi : (2 ≤ T 2 0 ∧ T 2 0 ≤ 99) ∧ (0 ≤ T 2 1 ∧ T 2 1 ≤ 2) ∧ (1 ≤ T 2 2 ∧ T 2 2 ≤ 20) := h.1.1.1.1
  have m : Tm 222 p = T 2 p := wb_rd_set h.1.2 h1.1 hp
  refine ⟨?_, ?_, ?_⟩
  · unfold w76
    rw [wb_w92y hp, Option.bind_some, wb_eli, wb_ld ⟨hp.1, by omega⟩, Option.bind_some]
  · rw [wb_ld ⟨hp.1, by omega⟩, m]
  · have e : p = 0 ∨ p = 1 ∨ p = 2 := by omega
    rcases e with rfl | rfl | rfl
    · exact wb_rgd (by have := hi.1; omega)
    · exact wb_rgd (by have := hi.2.1; omega)
    · exact wb_rgd (by have := hi.2.2; omega)
theorem wb_op_setting {T Tm : sw_T} {N p : Int} (h : wb_R T Tm N) (hp : wb_rg p) : wb_res (w183 T p) (w153 Tm p) T Tm N := by
  have h0 := wb_R_k (k := 0) (v := 0) h (by decide)
  by_cases hv : 0 ≤ p ∧ p < 3
  · obtain ⟨g1, g2, g3⟩ := wb_stt h0 hv
    refine wb_res_lk h (wb_h183 g1 g3) ?_ g3
    unfold w153
    rw [wb_pf, Option.bind_some, wb_w96y (wb_rgd (by decide)) (wb_rgd (by decide)) (by omega), Option.bind_some, wb_r1 (by decide), Option.bind_some, if_neg (by decide), g2, Option.bind_some]
  · refine wb_res_no (k := 1) (wb_t183_2 ?_) ?_ ⟨wb_rgd (by decide), by decide⟩ h
    · unfold w76
      rw [wb_w92n hp hv, Option.bind_some, wb_elr]
    · unfold w153
      rw [wb_pf, Option.bind_some, wb_w96n hp (wb_rgd (by decide)) (wb_rgd (by decide)) (by omega), Option.bind_some, wb_r1 (by decide), Option.bind_some, if_pos rfl, wb_w97, Option.bind_some]
theorem wb_chs {T Tm : sw_T} {N p : Int} (h : wb_R T Tm N) (hw : 0 ≤ p ∧ p < T 1 1) : ∃ v, w77 T p = some (.inl v) ∧ w115 Tm p = some v ∧ wb_rg v := by
  have h1 : 2 ≤ T 1 1 ∧ T 1 1 ≤ 7 := h.1.1.1.2.1.2.1
  obtain ⟨g1, g2, g3⟩ := wb_cho_ok h.1.1.1 h.1.2 hw
  refine ⟨_, ?_, g2, ⟨by omega, by omega⟩⟩
  unfold w77
  rw [wb_w90y h1 hw, Option.bind_some, wb_eli, g1, Option.bind_some]
theorem wb_op_choice {T Tm : sw_T} {N p : Int} (h : wb_R T Tm N) (hp : wb_rg p) : wb_res (w184 T p) (w154 Tm p) T Tm N := by
  have h1 : 2 ≤ T 1 1 ∧ T 1 1 ≤ 7 := h.1.1.1.2.1.2.1
  have h0 := wb_R_k (k := 0) (v := 0) h (by decide)
  have m4 : sw_up Tm 221 0 0 222 4 = T 1 1 := (wb_rd_sc h0.1.2 h1.1).2.1
  by_cases hw : 0 ≤ p ∧ p < T 1 1
  · obtain ⟨v, g1, g2, g3⟩ := wb_chs h0 hw
    refine wb_res_lk h (wb_h184 (v := v) g1 g3) ?_ g3
    unfold w154
    rw [wb_pf, Option.bind_some, wb_w104y m4 h1 hw, Option.bind_some, wb_r1 (by decide), Option.bind_some, if_neg (by decide), g2, Option.bind_some]
  · refine wb_res_no (k := 1) (wb_t184_2 ?_) ?_ ⟨wb_rgd (by decide), by decide⟩ h
    · unfold w77
      rw [wb_w90n h1 hp hw, Option.bind_some, wb_elr]
    · unfold w154
      rw [wb_pf, Option.bind_some, wb_w104n m4 h1 hp hw, Option.bind_some, wb_r1 (by decide), Option.bind_some, if_pos rfl, wb_w97, Option.bind_some]
