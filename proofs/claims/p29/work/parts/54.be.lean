/-! ===== a shirt is taken into the hand ===== -/
def wb_tk0 (T : sw_T) (b : Nat) (w s : Int) : sw_T := sw_up (sw_up (sw_up (sw_up (sw_up T (b + 3) w s) (b + 4) w 0) b 2 (T b 2 + 1)) (b + 22) s 1) (b + 23) s w
def wb_tk1 (T : sw_T) (b : Nat) (w s : Int) : sw_T := sw_up (sw_up (wb_tk0 T b w s) (b + 21) s (T (b + 21) s - T (b + 21) s / 2)) b 3 (T b 3 + 1)
def wb_tak (T : sw_T) (b : Nat) (w s : Int) : sw_T := if T (b + 1) 0 < T (b + 21) s ∧ T (b + 20) 0 < 120 then wb_com (wb_tk1 T b w s) b w (T (b + 21) s / 2) else wb_tk0 T b w s
theorem wb_tk0_rd {T : sw_T} {b : Nat} {w s : Int} : (wb_tk0 T b w s b 1 = T b 1 ∧ wb_tk0 T b w s b 3 = T b 3) ∧ wb_tk0 T b w s (b + 1) = T (b + 1) ∧ wb_tk0 T b w s (b + 5) = T (b + 5) ∧ wb_tk0 T b w s (b + 11) = T (b + 11) ∧ wb_tk0 T b w s (b + 20) = T (b + 20) ∧ wb_tk0 T b w s (b + 21) = T (b + 21) := by
  unfold wb_tk0
  refine ⟨⟨?_, ?_⟩, ?_, ?_, ?_, ?_, ?_⟩
  · rw [sw_up_ne (by omega), sw_up_ne (by omega), sw_up_eq]
    unfold sw_ui
    rw [if_neg (by decide), sw_up_ne (by omega), sw_up_ne (by omega)]
  · rw [sw_up_ne (by omega), sw_up_ne (by omega), sw_up_eq]
    unfold sw_ui
    rw [if_neg (by decide), sw_up_ne (by omega), sw_up_ne (by omega)]
  all_goals rw [sw_up_ne (by omega), sw_up_ne (by omega), sw_up_ne (by omega), sw_up_ne (by omega), sw_up_ne (by omega)]
theorem wb_tk1_rd {T : sw_T} {b : Nat} {w s : Int} : wb_tk1 T b w s b 1 = T b 1 ∧ wb_tk1 T b w s (b + 1) = T (b + 1) ∧ wb_tk1 T b w s (b + 5) = T (b + 5) ∧ wb_tk1 T b w s (b + 11) = T (b + 11) ∧ wb_tk1 T b w s (b + 20) = T (b + 20) := by
  obtain ⟨⟨h1, h2⟩, h3, h4, h5, h6, h7⟩ := wb_tk0_rd (T := T) (b := b) (w := w) (s := s)
  unfold wb_tk1
  refine ⟨?_, ?_, ?_, ?_, ?_⟩
  · rw [sw_up_eq]
    unfold sw_ui
    rw [if_neg (by decide), sw_up_ne (by omega), h1]
  · rw [sw_up_ne (by omega), sw_up_ne (by omega), h3]
  · rw [sw_up_ne (by omega), sw_up_ne (by omega), h4]
  · rw [sw_up_ne (by omega), sw_up_ne (by omega), h5]
  · rw [sw_up_ne (by omega), sw_up_ne (by omega), h6]
theorem wb_tak_ok {T Tm : sw_T} {b : Nat} {w s : Int} (R : wb_rp T b (Tm 222)) (h1 : 2 ≤ T b 1 ∧ T b 1 ≤ 7) (hl : 2 ≤ T (b + 1) 0 ∧ T (b + 1) 0 ≤ 99) (ha : ∀ w, 0 ≤ w ∧ w < 7 → T (b + 5) w = 0 ∨ T (b + 5) w = 1) (hc : 0 ≤ T (b + 20) 0 ∧ T (b + 20) 0 ≤ 120) (hs : 0 ≤ s ∧ s < T (b + 20) 0) (hk : 0 ≤ T (b + 21) s ∧ T (b + 21) s ≤ 99) (hw : 0 ≤ w ∧ w < T b 1) (hh : 0 ≤ T (b + 11) w ∧ T (b + 11) w < 16) : w37 b T w s = some (wb_tak T b w s) ∧ ∃ Tm1, w110 Tm w s = some Tm1 ∧ wb_rp (wb_tak T b w s) b (Tm1 222) ∧ wb_fm Tm Tm1 := by
  have hw7 : 0 ≤ w ∧ w < 7 := ⟨hw.1, by omega⟩
  have hs7 : 0 ≤ s ∧ s < 120 := ⟨hs.1, by omega⟩
  obtain ⟨⟨k1, k2⟩, k3, k4, k5, k6, k7⟩ := wb_tk0_rd (T := T) (b := b) (w := w) (s := s)
  obtain ⟨l1, l3, l4, l5, l6⟩ := wb_tk1_rd (T := T) (b := b) (w := w) (s := s)
  -- the reference's row behind the taking
  have m7 : Tm 222 7 = T b 2 := (wb_rd_sc R h1.1).2.2.2.2
  have r1 := wb_up_hd R hw7 (v := s)
  have r2 := wb_up_st r1 hw7 (v := 0) 4 (by decide)
  have r3 := wb_up_tak r2 (v := T b 2 + 1)
  have r4 := wb_up_shirt r3 hs.1 (v := 1) 22 (by decide)
  have r5 := wb_up_shirt r4 hs.1 (v := w) 23 (by decide)
  have r5' : wb_rp (wb_tk0 T b w s) b (sw_ui (sw_ui (sw_ui (sw_ui (sw_ui (Tm 222) (8 + 9 * w + 1) (s + 1)) (8 + 9 * w + 2) 0) (183 + 3 * s + 1) 1) (183 + 3 * s + 2) w) 7 (T b 2 + 1)) := by
    rw [sw_ui_cm (i := 183 + 3 * s + 2) (j := 7) (by omega), sw_ui_cm (i := 183 + 3 * s + 1) (j := 7) (by omega)]
    exact r5
  -- what follows if the shirt is divided
  have hcom := fun (Tm2 : sw_T) (R2 : wb_rp (wb_tk1 T b w s) b (Tm2 222)) (hc2 : T (b + 20) 0 < 120) => wb_com_ok (T := wb_tk1 T b w s) (Tm := Tm2) (b := b) (w := w) (k := T (b + 21) s / 2) R2 (by rw [l1]; exact h1) (by rw [l4]; exact ha) (by rw [l6]; exact ⟨hc.1, hc2⟩) (by rw [l1]; exact hw) (by rw [l5]; exact hh)
  have hdv : sw_dv (T (b + 21) s) 2 = some () := wb_dv ⟨⟨hk.1, by omega⟩, by decide⟩
  constructor
  · have hcx : 0 ≤ sw_up (sw_up (sw_up T (b + 3) w s) (b + 4) w 0) b 2 (T b 2 + 1) (b + 20) 0 ∧ sw_up (sw_up (sw_up T (b + 3) w s) (b + 4) w 0) b 2 (T b 2 + 1) (b + 20) 0 ≤ 120 := by rw [sw_up_ne (by omega), sw_up_ne (by omega), sw_up_ne (by omega)]; exact hc
    have hsx : 0 ≤ s ∧ s < sw_up (sw_up (sw_up T (b + 3) w s) (b + 4) w 0) b 2 (T b 2 + 1) (b + 20) 0 := by rw [sw_up_ne (by omega), sw_up_ne (by omega), sw_up_ne (by omega)]; exact hs
    unfold w37
    rw [wb_w25y h1 hw, Option.bind_some, wb_r1 (by decide), Option.bind_some, if_neg (by decide), wb_st hw7, Option.bind_some, wb_st hw7, Option.bind_some, wb_pf, Option.bind_some]
    simp only [sw_up_ne (show b ≠ b + 4 by omega), sw_up_ne (show b ≠ b + 3 by omega)]
    rw [wb_w55 hcx hsx, Option.bind_some]
    have e0 : sw_up (sw_up (sw_up (sw_up (sw_up T (b + 3) w s) (b + 4) w 0) b 2 (T b 2 + 1)) (b + 22) s 1) (b + 23) s w = wb_tk0 T b w s := rfl
    rw [e0, wb_w53y (by rw [k6]; exact hc) (by rw [k6]; exact hs), Option.bind_some, wb_ld (by decide), Option.bind_some, k7, k3, k6, wb_r2 ⟨by omega, by omega⟩ ⟨by omega, by omega⟩, Option.bind_some]
    unfold wb_tak
    by_cases hd : T (b + 1) 0 < T (b + 21) s
    · rw [if_pos hd, wb_r2 ⟨by omega, by omega⟩ (by decide), Option.bind_some]
      by_cases hc2 : T (b + 20) 0 < 120
      · rw [if_pos hc2, if_pos ⟨hd, hc2⟩, hdv, Option.bind_some, wb_w54 (by rw [k6]; exact hc) (by rw [k6]; exact hs), Option.bind_some, wb_pf, Option.bind_some]
        simp only [sw_up_ne (show b ≠ b + 21 by omega), k2]
        have e1 : sw_up (sw_up (wb_tk0 T b w s) (b + 21) s (T (b + 21) s - T (b + 21) s / 2)) b 3 (T b 3 + 1) = wb_tk1 T b w s := rfl
        rw [e1]
        -- the run of the class alone: any reference will do
        have R2 : wb_rp (wb_tk1 T b w s) b (wb_en (wb_tk1 T b w s) b) := fun j _ => rfl
        have := (hcom (fun a => if a = 222 then wb_en (wb_tk1 T b w s) b else T a) (by show wb_rp _ b (if (222 : Nat) = 222 then _ else _); rw [if_pos rfl]; exact R2) hc2).1
        rw [this, Option.bind_some]
      · rw [if_neg hc2, if_neg (fun h => hc2 h.2)]
    · rw [if_neg hd, if_neg (fun h => hd h.1)]
  · unfold w110
    rw [wb_w99 hw7 (by decide), Option.bind_some, wb_w99 hw7 (by decide), Option.bind_some, wb_w103 hs7 (by decide), Option.bind_some, wb_w103 hs7 (by decide), Option.bind_some, wb_ld (by decide), Option.bind_some]
    have e7 : sw_up (sw_up (sw_up (sw_up Tm 222 (8 + 9 * w + 1) (s + 1)) 222 (8 + 9 * w + 2) 0) 222 (183 + 3 * s + 1) 1) 222 (183 + 3 * s + 2) w 222 7 = T b 2 := by
      rw [wb_m, wb_m, wb_m, wb_m]
      unfold sw_ui
      rw [if_neg (by omega), if_neg (by omega), if_neg (by omega), if_neg (by omega)]
      exact m7
    rw [e7, wb_st (by decide), Option.bind_some]
    generalize hTm2 : sw_up (sw_up (sw_up (sw_up (sw_up Tm 222 (8 + 9 * w + 1) (s + 1)) 222 (8 + 9 * w + 2) 0) 222 (183 + 3 * s + 1) 1) 222 (183 + 3 * s + 2) w) 222 7 (T b 2 + 1) = Tm2
    have R2 : wb_rp (wb_tk0 T b w s) b (Tm2 222) := by
      rw [← hTm2, wb_m, wb_m, wb_m, wb_m, wb_m]
      exact r5'
    have F2 : wb_fm Tm Tm2 := by
      rw [← hTm2]
      exact wb_fm.rf.up.up.up.up.up
    have n1 : Tm2 222 (183 + 3 * s + 0) = T (b + 21) s := by
      have := wb_rd_shirt R2 (s := s) (by rw [k6]; exact hs) 21 (by decide)
      rw [k7] at this
      exact this
    have n0 : Tm2 222 0 = T (b + 1) 0 := by
      have := wb_rd_set R2 (by rw [k1]; exact h1.1) (j := 0) (by decide)
      rw [k3] at this
      exact this
    have n5 : Tm2 222 5 = T (b + 20) 0 := by
      have := (wb_rd_sc R2 (by rw [k1]; exact h1.1)).2.2.1
      rw [k6] at this
      exact this
    have n6 : Tm2 222 6 = T b 3 := by
      have := (wb_rd_sc R2 (by rw [k1]; exact h1.1)).2.2.2.1
      rw [k2] at this
      exact this
    rw [wb_w102 hs7 (by decide), Option.bind_some, wb_ld (by decide), Option.bind_some, n1, n0, wb_r2 ⟨by omega, by omega⟩ ⟨by omega, by omega⟩, Option.bind_some]
    unfold wb_tak
    by_cases hd : T (b + 1) 0 < T (b + 21) s
    · rw [if_pos hd, wb_ld (by decide), Option.bind_some, n5, wb_r2 ⟨by omega, by omega⟩ (by decide), Option.bind_some]
      by_cases hc2 : T (b + 20) 0 < 120
      · rw [if_pos hc2, if_pos ⟨hd, hc2⟩, hdv, Option.bind_some, wb_w103 hs7 (by decide), Option.bind_some, wb_ld (by decide), Option.bind_some]
        have e6 : sw_up Tm2 222 (183 + 3 * s + 0) (T (b + 21) s - T (b + 21) s / 2) 222 6 = T b 3 := by
          rw [wb_m]
          unfold sw_ui
          rw [if_neg (by omega)]
          exact n6
        rw [e6, wb_st (by decide), Option.bind_some, Option.bind_some]
        have q1 := wb_up_shirt R2 hs.1 (v := T (b + 21) s - T (b + 21) s / 2) 21 (by decide)
        have q2 := wb_up_div q1 (v := T b 3 + 1)
        obtain ⟨-, Tm3, e1, e2, e3⟩ := hcom (sw_up (sw_up Tm2 222 (183 + 3 * s + 0) (T (b + 21) s - T (b + 21) s / 2)) 222 6 (T b 3 + 1)) (by rw [wb_m, wb_m]; exact q2) hc2
        rw [e1, Option.bind_some]
        exact ⟨Tm3, rfl, e2, wb_fm.tr F2 (wb_fm.tr wb_fm.rf.up.up e3)⟩
      · rw [if_neg hc2, if_neg (fun h => hc2 h.2)]
        exact ⟨Tm2, rfl, R2, F2⟩
    · rw [if_neg hd, if_neg (fun h => hd h.1)]
      exact ⟨Tm2, rfl, R2, F2⟩
