/-! ===== a room stays a room ===== -/
theorem wb_iv_mild {T T' : sw_T} {b : Nat} {N N' : Int} (I : wb_iv T b N) (hN : N ≤ N') (he : ∀ a, a ≠ b + 4 → a ≠ b + 5 → a ≠ b + 8 → a ≠ b + 9 → T' a = T a) (hs : ∀ w, 0 ≤ w ∧ w < 7 → (0 ≤ T' (b + 4) w ∧ T' (b + 4) w ≤ 20) ∧ (T' (b + 5) w = 0 ∨ T' (b + 5) w = 1) ∧ (0 ≤ T' (b + 8) w ∧ T' (b + 8) w ≤ N') ∧ (0 ≤ T' (b + 9) w ∧ T' (b + 9) w ≤ N')) (hcl : ∀ w, T b 1 ≤ w ∧ w < 7 → T' (b + 4) w = T (b + 4) w ∧ T' (b + 5) w = T (b + 5) w ∧ T' (b + 8) w = T (b + 8) w ∧ T' (b + 9) w = T (b + 9) w) : wb_iv T' b N' := by
  obtain ⟨i1, ⟨⟨i2, i2'⟩, i3, i4, ⟨i5, i5'⟩, i6⟩, i7, i8, i9, i10, i11, i12⟩ := I
  have h0 : T' b = T b := he b (by omega) (by omega) (by omega) (by omega)
  have h1 : T' (b + 1) = T (b + 1) := he _ (by omega) (by omega) (by omega) (by omega)
  have h2 : T' (b + 2) = T (b + 2) := he _ (by omega) (by omega) (by omega) (by omega)
  have h3 : T' (b + 3) = T (b + 3) := he _ (by omega) (by omega) (by omega) (by omega)
  have h6 : T' (b + 6) = T (b + 6) := he _ (by omega) (by omega) (by omega) (by omega)
  have h7 : T' (b + 7) = T (b + 7) := he _ (by omega) (by omega) (by omega) (by omega)
  have h11 : T' (b + 11) = T (b + 11) := he _ (by omega) (by omega) (by omega) (by omega)
  have h20 : T' (b + 20) = T (b + 20) := he _ (by omega) (by omega) (by omega) (by omega)
  have h21 : T' (b + 21) = T (b + 21) := he _ (by omega) (by omega) (by omega) (by omega)
  have h22 : T' (b + 22) = T (b + 22) := he _ (by omega) (by omega) (by omega) (by omega)
  have h23 : T' (b + 23) = T (b + 23) := he _ (by omega) (by omega) (by omega) (by omega)
  have hp : ∀ w j, wb_pi T' b w j = wb_pi T b w j := fun w j => by unfold wb_pi; rw [he _ (by omega) (by omega) (by omega) (by omega)]
  have hd : wb_hd T' b = wb_hd T b := by funext w; unfold wb_hd; rw [h3]
  refine ⟨by rw [h1]; exact i1, ⟨by rw [h0]; exact ⟨i2, by omega⟩, by rw [h0]; exact i3, by rw [h0]; exact i4, by rw [h0]; exact ⟨i5, by omega⟩, by rw [h20]; exact i6⟩, ?_, ?_, ?_, ?_, ?_, ?_⟩
  · intro w hw
    obtain ⟨q1, q2, -, -, q3, -, -, q4⟩ := i7 w hw
    obtain ⟨p1, p2, p3, p4⟩ := hs w hw
    unfold wb_se
    rw [h2, h3, h6, h7, h11, h20, h22, h23]
    exact ⟨q1, q2, p1, p2, q3, p3, p4, q4⟩
  · intro w hw
    rw [h0] at hw
    obtain ⟨q1, q2, q3, q4, q5, q6, q7, q8⟩ := i8 w hw
    obtain ⟨p1, p2, p3, p4⟩ := hcl w hw
    unfold wb_cl
    rw [h3, h6, h7, h11, p1, p2, p3, p4]
    exact ⟨q1, q2, q3, q4, q5, q6, q7, q8⟩
  · intro w j hw hj
    rw [h11] at hj
    rw [hp, h20, h22, h23]
    exact i9 w j hw hj
  · intro w i j hw hj
    rw [h11] at hj
    rw [hp, hp]
    exact i10 w i j hw hj
  · intro s hs
    rw [h20] at hs
    rw [h21, h22, h23]
    exact i11 s hs
  · rw [h0, h6, h7, h11, h20, h22, hd]
    exact i12
theorem wb_slp_iv {T : sw_T} {b : Nat} {N w : Int} (I : wb_iv T b N) (hw : 0 ≤ w ∧ w < T b 1) : wb_iv (wb_slp T b w) b (N + 1) := by
  have h1 : 2 ≤ T b 1 ∧ T b 1 ≤ 7 := I.2.1.2.1
  unfold wb_slp
  refine wb_iv_mild I (by omega) (fun a _ _ h8 _ => sw_up_ne h8) (fun v hv => ?_) (fun v hv => ?_)
  · obtain ⟨-, -, q3, q4, -, q6, q7, -⟩ := I.2.2.1 v hv
    simp only [wb_rdu, show ¬ b + 4 = b + 8 by omega, show ¬ b + 5 = b + 8 by omega, show ¬ b + 9 = b + 8 by omega, if_false, if_true]
    refine ⟨q3, q4, ?_, q7.1, by omega⟩
    split
    · rename_i hx
      rw [hx] at q6
      omega
    · omega
  · simp only [wb_rdu, show ¬ b + 4 = b + 8 by omega, show ¬ b + 5 = b + 8 by omega, show ¬ b + 9 = b + 8 by omega, if_false, if_true]
    exact ⟨trivial, trivial, if_neg (by omega), trivial⟩
theorem wb_mis_iv {T : sw_T} {b : Nat} {N w : Int} (I : wb_iv T b N) (hw : 0 ≤ w ∧ w < T b 1) : wb_iv (wb_mis T b w) b (N + 1) := by
  have h1 : 2 ≤ T b 1 ∧ T b 1 ≤ 7 := I.2.1.2.1
  have ht := I.1.2.2
  unfold wb_mis
  split
  · rename_i hl
    refine wb_iv_mild I (by omega) (fun a h4 _ _ h9 => by rw [sw_up_ne h4, sw_up_ne h9]) (fun v hv => ?_) (fun v hv => ?_)
    · obtain ⟨-, -, q3, q4, -, q6, q7, -⟩ := I.2.2.1 v hv
      simp only [wb_rdu, show ¬ b + 4 = b + 9 by omega, show ¬ b + 5 = b + 9 by omega, show ¬ b + 8 = b + 9 by omega, show ¬ b + 5 = b + 4 by omega, show ¬ b + 8 = b + 4 by omega, show ¬ b + 9 = b + 4 by omega, if_false, if_true]
      by_cases hx : v = w
      · subst hx
        simp only [if_true]
        exact ⟨by omega, q4, by omega, by omega⟩
      · simp only [hx, if_false]
        exact ⟨q3, q4, by omega, by omega⟩
    · simp only [wb_rdu, show ¬ b + 4 = b + 9 by omega, show ¬ b + 5 = b + 9 by omega, show ¬ b + 8 = b + 9 by omega, show ¬ b + 5 = b + 4 by omega, show ¬ b + 8 = b + 4 by omega, show ¬ b + 9 = b + 4 by omega, show ¬ v = w by omega, if_false, if_true]
      exact ⟨trivial, trivial, trivial, trivial⟩
  · refine wb_iv_mild I (by omega) (fun a h4 h5 _ h9 => by rw [sw_up_ne h4, sw_up_ne h5, sw_up_ne h4, sw_up_ne h9]) (fun v hv => ?_) (fun v hv => ?_)
    · obtain ⟨-, -, q3, q4, -, q6, q7, -⟩ := I.2.2.1 v hv
      simp only [wb_rdu, show ¬ b + 4 = b + 9 by omega, show ¬ b + 5 = b + 9 by omega, show ¬ b + 8 = b + 9 by omega, show ¬ b + 5 = b + 4 by omega, show ¬ b + 8 = b + 4 by omega, show ¬ b + 9 = b + 4 by omega, show ¬ b + 4 = b + 5 by omega, show ¬ b + 8 = b + 5 by omega, show ¬ b + 9 = b + 5 by omega, if_false, if_true]
      by_cases hx : v = w
      · subst hx
        simp only [if_true]
        exact ⟨by omega, by simp, by omega, by omega⟩
      · simp only [hx, if_false]
        exact ⟨q3, q4, by omega, by omega⟩
    · simp only [wb_rdu, show ¬ b + 4 = b + 9 by omega, show ¬ b + 5 = b + 9 by omega, show ¬ b + 8 = b + 9 by omega, show ¬ b + 5 = b + 4 by omega, show ¬ b + 8 = b + 4 by omega, show ¬ b + 9 = b + 4 by omega, show ¬ b + 4 = b + 5 by omega, show ¬ b + 8 = b + 5 by omega, show ¬ b + 9 = b + 5 by omega, show ¬ v = w by omega, if_false, if_true]
      exact ⟨trivial, trivial, trivial, trivial⟩
theorem wb_wkf_iv {T : sw_T} {b : Nat} {N : Int} (I : wb_iv T b N) : wb_iv (wb_wkf T b) b N := by
  have h1 : 2 ≤ T b 1 ∧ T b 1 ≤ 7 := I.2.1.2.1
  unfold wb_wkf
  split
  · rename_i hl
    generalize wb_fi (T (b + 5)) (T b 1) 7 0 = i at hl
    refine wb_iv_mild I (by omega) (fun a h4 h5 _ _ => by rw [sw_up_ne h4, sw_up_ne h5]) (fun v hv => ?_) (fun v hv => ?_)
    · obtain ⟨-, -, q3, q4, -, q6, q7, -⟩ := I.2.2.1 v hv
      simp only [wb_rdu, show ¬ b + 5 = b + 4 by omega, show ¬ b + 8 = b + 4 by omega, show ¬ b + 9 = b + 4 by omega, show ¬ b + 4 = b + 5 by omega, show ¬ b + 8 = b + 5 by omega, show ¬ b + 9 = b + 5 by omega, if_false, if_true]
      by_cases hx : v = i
      · subst hx
        simp only [if_true]
        exact ⟨by omega, by simp, by omega, by omega⟩
      · simp only [hx, if_false]
        exact ⟨q3, q4, by omega, by omega⟩
    · simp only [wb_rdu, show ¬ b + 5 = b + 4 by omega, show ¬ b + 8 = b + 4 by omega, show ¬ b + 9 = b + 4 by omega, show ¬ b + 4 = b + 5 by omega, show ¬ b + 8 = b + 5 by omega, show ¬ b + 9 = b + 5 by omega, show ¬ v = i by omega, if_false, if_true]
      exact ⟨trivial, trivial, trivial, trivial⟩
  · exact I
