/-! ===== a setting ===== -/
theorem wb_set_iv {T : sw_T} {b : Nat} {N k v : Int} (I : wb_iv T b N) (hk : 0 ≤ k ∧ k < 3) (hv : (k = 0 → 2 ≤ v ∧ v ≤ 99) ∧ (k = 1 → 0 ≤ v ∧ v ≤ 2) ∧ (k = 2 → 1 ≤ v ∧ v ≤ 20)) : wb_iv (sw_up T (b + 1) k v) b N := by
  obtain ⟨i1, i2, i7, i8, i9, i10, i11, i12⟩ := I
  have h : ∀ a, a ≠ b + 1 → sw_up T (b + 1) k v a = T a := fun a ha => sw_up_ne ha
  have e : ∀ i, sw_up T (b + 1) k v (b + 1) i = if i = k then v else T (b + 1) i := fun i => by rw [sw_up_eq]; rfl
  have hp : ∀ x j, wb_pi (sw_up T (b + 1) k v) b x j = wb_pi T b x j := fun x j => wb_pi_ne (by omega)
  have hd : wb_hd (sw_up T (b + 1) k v) b = wb_hd T b := wb_hd_ne (by omega)
  refine ⟨?_, by rw [h b (by omega), h (b + 20) (by omega)]; exact i2, ?_, ?_, ?_, ?_, ?_, ?_⟩
  · rw [e, e, e]
    refine ⟨?_, ?_, ?_⟩
    · split
      · exact hv.1 (by omega)
      · exact i1.1
    · split
      · exact hv.2.1 (by omega)
      · exact i1.2.1
    · split
      · exact hv.2.2 (by omega)
      · exact i1.2.2
  · intro x hx
    have := i7 x hx
    unfold wb_se at this ⊢
    rw [h (b + 2) (by omega), h (b + 3) (by omega), h (b + 4) (by omega), h (b + 5) (by omega), h (b + 6) (by omega), h (b + 7) (by omega), h (b + 8) (by omega), h (b + 9) (by omega), h (b + 11) (by omega), h (b + 20) (by omega), h (b + 22) (by omega), h (b + 23) (by omega)]
    exact this
  · intro x hx
    rw [h b (by omega)] at hx
    have := i8 x hx
    unfold wb_cl at this ⊢
    rw [h (b + 3) (by omega), h (b + 4) (by omega), h (b + 5) (by omega), h (b + 6) (by omega), h (b + 7) (by omega), h (b + 8) (by omega), h (b + 9) (by omega), h (b + 11) (by omega)]
    exact this
  · intro x j hx hj
    rw [h (b + 11) (by omega)] at hj
    rw [hp, h (b + 20) (by omega), h (b + 22) (by omega), h (b + 23) (by omega)]
    exact i9 x j hx hj
  · intro x i j hx hj
    rw [h (b + 11) (by omega)] at hj
    rw [hp, hp]
    exact i10 x i j hx hj
  · intro x hx
    rw [h (b + 20) (by omega)] at hx
    rw [h (b + 21) (by omega), h (b + 22) (by omega), h (b + 23) (by omega)]
    exact i11 x hx
  · rw [h b (by omega), h (b + 6) (by omega), h (b + 7) (by omega), h (b + 11) (by omega), h (b + 20) (by omega), h (b + 22) (by omega), hd]
    exact i12
