/-! ===== speed, waking, whether a shirt can be laid ===== -/
theorem wb_w27_ok {T Tm : sw_T} {b : Nat} {N w v : Int} (I : wb_iv T b N) (R : wb_rp T b (Tm 222)) (hw : 0 ≤ w ∧ w < T b 1) (hv : 1 ≤ v ∧ v ≤ 9) : w27 b T w v = some (T (b + 2) w, sw_up T (b + 2) w v) ∧ Tm 222 (8 + 9 * w + 0) = T (b + 2) w ∧ w99 Tm w 0 v = some (sw_up Tm 222 (8 + 9 * w + 0) v) ∧ wb_rp (sw_up T (b + 2) w v) b (sw_up Tm 222 (8 + 9 * w + 0) v 222) ∧ wb_iv (sw_up T (b + 2) w v) b N := by
  have h1 : 2 ≤ T b 1 ∧ T b 1 ≤ 7 := I.2.1.2.1
  have hw7 : 0 ≤ w ∧ w < 7 := ⟨hw.1, by omega⟩
  refine ⟨?_, wb_rd_st R h1.2 hw 2 (by decide), wb_w99 hw7 (by decide), by rw [wb_m]; exact wb_up_st R hw7 2 (by decide), ?_⟩
  · unfold w27
    rw [wb_w25y h1 hw, Option.bind_some, wb_r1 (by decide), Option.bind_some, if_neg (by decide), wb_ld hw7, Option.bind_some, wb_st hw7, Option.bind_some]
  · obtain ⟨i1, i2, i7, i8, i9, i10, i11, i12⟩ := I
    have h : ∀ a, a ≠ b + 2 → sw_up T (b + 2) w v a = T a := fun a ha => sw_up_ne ha
    have hp : ∀ x j, wb_pi (sw_up T (b + 2) w v) b x j = wb_pi T b x j := fun x j => wb_pi_ne (by omega)
    have hd : wb_hd (sw_up T (b + 2) w v) b = wb_hd T b := wb_hd_ne (by omega)
    refine ⟨by rw [h (b + 1) (by omega)]; exact i1, by rw [h b (by omega), h (b + 20) (by omega)]; exact i2, ?_, ?_, ?_, ?_, ?_, ?_⟩
    · intro x hx
      have := i7 x hx
      unfold wb_se at this ⊢
      rw [h (b + 3) (by omega), h (b + 4) (by omega), h (b + 5) (by omega), h (b + 6) (by omega), h (b + 7) (by omega), h (b + 8) (by omega), h (b + 9) (by omega), h (b + 11) (by omega), h (b + 20) (by omega), h (b + 22) (by omega), h (b + 23) (by omega), wb_rdu, if_pos rfl]
      refine ⟨?_, this.2⟩
      split
      · exact hv
      · exact this.1
    · intro x hx
      rw [h b (by omega)] at hx
      have := i8 x hx
      unfold wb_cl at this ⊢
      rw [h (b + 3) (by omega), h (b + 4) (by omega), h (b + 5) (by omega), h (b + 6) (by omega), h (b + 7) (by omega), h (b + 8) (by omega), h (b + 9) (by omega), h (b + 11) (by omega)]
      exact this
    · intro x j hx hj
      rw [h (b + 11) (by omega)] at hj
      rw [hp, h (b + 20) (by omega), h (b + 22) (by omega), h (b + 23) (by omega)]
      exact i9 x j hx hj
    · intro x i j hx hj
      rw [h (b + 11) (by omega)] at hj
      rw [hp, hp]
      exact i10 x i j hx hj
    · intro x hx
      rw [h (b + 20) (by omega)] at hx
      rw [h (b + 21) (by omega), h (b + 22) (by omega), h (b + 23) (by omega)]
      exact i11 x hx
    · rw [h b (by omega), h (b + 6) (by omega), h (b + 7) (by omega), h (b + 11) (by omega), h (b + 20) (by omega), h (b + 22) (by omega), hd]
      exact i12
def wb_rou (T : sw_T) (b : Nat) (w : Int) : sw_T := sw_up (sw_up T (b + 5) w 0) (b + 4) w 0
theorem wb_rou_ok {T Tm : sw_T} {b : Nat} {N w : Int} (I : wb_iv T b N) (R : wb_rp T b (Tm 222)) (hw : 0 ≤ w ∧ w < T b 1) : w28 b T w = some (T (b + 5) w, wb_rou T b w) ∧ wb_iv (wb_rou T b w) b N ∧ ∃ Tm1, w129 Tm w = some (T (b + 5) w, Tm1) ∧ wb_rp (wb_rou T b w) b (Tm1 222) ∧ wb_fm Tm Tm1 := by
  have h1 : 2 ≤ T b 1 ∧ T b 1 ≤ 7 := I.2.1.2.1
  have hw7 : 0 ≤ w ∧ w < 7 := ⟨hw.1, by omega⟩
  have ha := (I.2.2.1 w hw7).2.2.2.1
  have m3 : Tm 222 (8 + 9 * w + 3) = T (b + 5) w := wb_rd_st R h1.2 hw 5 (by decide)
  have r1 := wb_up_st R hw7 (v := 0) 5 (by decide)
  have r2 := wb_up_st r1 hw7 (v := 0) 4 (by decide)
  unfold wb_rou
  refine ⟨?_, ?_, ?_⟩
  · unfold w28
    rw [wb_w25y h1 hw, Option.bind_some, wb_r1 (by decide), Option.bind_some, if_neg (by decide), wb_ld hw7, Option.bind_some, wb_r1 ⟨by omega, by omega⟩, Option.bind_some, wb_sb hw7 (.inl rfl), Option.bind_some, wb_st hw7, Option.bind_some, Option.bind_some, wb_st hw7, Option.bind_some]
    split
    · rename_i hx
      rw [hx]
    · rw [show T (b + 5) w = 1 by omega]
  · refine wb_iv_mild I (by omega) (fun a h4 h5 _ _ => by rw [sw_up_ne h4, sw_up_ne h5]) (fun v hv => ?_) (fun v hv => ?_)
    · obtain ⟨-, -, q3, q4, -, q6, q7, -⟩ := I.2.2.1 v hv
      simp only [wb_rdu, show ¬ b + 5 = b + 4 by omega, show ¬ b + 8 = b + 4 by omega, show ¬ b + 9 = b + 4 by omega, show ¬ b + 4 = b + 5 by omega, show ¬ b + 8 = b + 5 by omega, show ¬ b + 9 = b + 5 by omega, if_false, if_true]
      by_cases hx : v = w
      · subst hx
        simp only [if_true]
        exact ⟨by omega, by simp, by omega, by omega⟩
      · simp only [hx, if_false]
        exact ⟨q3, q4, by omega, by omega⟩
    · simp only [wb_rdu, show ¬ b + 5 = b + 4 by omega, show ¬ b + 8 = b + 4 by omega, show ¬ b + 9 = b + 4 by omega, show ¬ b + 4 = b + 5 by omega, show ¬ b + 8 = b + 5 by omega, show ¬ b + 9 = b + 5 by omega, show ¬ v = w by omega, if_false, if_true]
      exact ⟨trivial, trivial, trivial, trivial⟩
  · unfold w129
    rw [wb_w98 hw7 (by decide), Option.bind_some, wb_w99 hw7 (by decide), Option.bind_some, wb_w99 hw7 (by decide), Option.bind_some, m3]
    exact ⟨_, rfl, by rw [wb_m, wb_m]; exact r2, wb_fm.rf.up.up⟩
theorem wb_w29 {T Tm : sw_T} {b : Nat} {N w : Int} (I : wb_iv T b N) (R : wb_rp T b (Tm 222)) (hw : 0 ≤ w ∧ w < T b 1) : w29 b T w = some (if T (b + 11) w < 16 ∧ T (b + 20) 0 < 120 then 1 else 0) ∧ w127 Tm w = some (if T (b + 11) w < 16 ∧ T (b + 20) 0 < 120 then 1 else 0) := by
  have h1 : 2 ≤ T b 1 ∧ T b 1 ≤ 7 := I.2.1.2.1
  have hc := I.2.1.2.2.2.2
  have hw7 : 0 ≤ w ∧ w < 7 := ⟨hw.1, by omega⟩
  have h16 := (I.2.2.1 w hw7).2.2.2.2.2.2.2
  have mh : Tm 222 (8 + 9 * w + 8) = T (b + 11) w := wb_rd_hgt R h1.2 hw
  have mc : Tm 222 5 = T (b + 20) 0 := (wb_rd_sc R h1.1).2.2.1
  constructor
  · unfold w29
    rw [wb_w18 hw7, Option.bind_some, wb_r2 (a := T (b + 11) w) ⟨by omega, by omega⟩ (by decide), Option.bind_some, wb_r2 (a := T (b + 20) 0) ⟨by omega, by omega⟩ (by decide), Option.bind_some]
    repeat' split
    all_goals first | rfl | omega
  · unfold w127
    rw [wb_w98 hw7 (by decide), Option.bind_some, mh, wb_r2 (a := T (b + 11) w) ⟨by omega, by omega⟩ (by decide), Option.bind_some, wb_ld (by decide), Option.bind_some, mc, wb_r2 (a := T (b + 20) 0) ⟨by omega, by omega⟩ (by decide), Option.bind_some]
    repeat' split
    all_goals first | rfl | omega
