/-! ===== a room stays a room: laying ===== -/
theorem wb_lay_iv {T : sw_T} {b : Nat} {N w k : Int} (I : wb_iv T b N) (hw : 0 ≤ w ∧ w < T b 1) (hk : 0 ≤ k ∧ k ≤ 99) (hc2 : T (b + 20) 0 < 120) (hh2 : T (b + 11) w < 16) : wb_iv (wb_lay T b w k) b N := by
  obtain ⟨i1, i2, i7, i8, i9, i10, i11, c0, c1, c2, c3, c4⟩ := I
  have h1 : 2 ≤ T b 1 ∧ T b 1 ≤ 7 := i2.2.1
  have hc := i2.2.2.2.2
  have hw7 : 0 ≤ w ∧ w < 7 := ⟨hw.1, by omega⟩
  have hh16 := (i7 w hw7).2.2.2.2.2.2.2
  generalize hT' : wb_lay T b w k = T'
  unfold wb_lay at hT'
  have h : ∀ a, a ≠ b + 21 → a ≠ b + 22 → a ≠ b + 23 → a ≠ b + 20 → a ≠ b + (13 + w.toNat) → a ≠ b + 11 → T' a = T a := fun a x1 x2 x3 x4 x5 x6 => by rw [← hT', sw_up_ne x6, sw_up_ne x5, sw_up_ne x4, sw_up_ne x3, sw_up_ne x2, sw_up_ne x1]
  have t21 : T' (b + 21) = sw_ui (T (b + 21)) (T (b + 20) 0) k := by rw [← hT', sw_up_ne (by omega), sw_up_ne (by omega), sw_up_ne (by omega), sw_up_ne (by omega), sw_up_ne (by omega), sw_up_eq]
  have t22 : T' (b + 22) = sw_ui (T (b + 22)) (T (b + 20) 0) 0 := by rw [← hT', sw_up_ne (by omega), sw_up_ne (by omega), sw_up_ne (by omega), sw_up_ne (by omega), sw_up_eq, sw_up_ne (by omega)]
  have t23 : T' (b + 23) = sw_ui (T (b + 23)) (T (b + 20) 0) w := by rw [← hT', sw_up_ne (by omega), sw_up_ne (by omega), sw_up_ne (by omega), sw_up_eq, sw_up_ne (by omega), sw_up_ne (by omega)]
  have t20 : T' (b + 20) 0 = T (b + 20) 0 + 1 := by rw [← hT', sw_up_ne (by omega), sw_up_ne (by omega), sw_up_eq]; exact if_pos rfl
  have t11 : T' (b + 11) = sw_ui (T (b + 11)) w (T (b + 11) w + 1) := by rw [← hT', sw_up_eq, sw_up_ne (by omega), sw_up_ne (by omega), sw_up_ne (by omega), sw_up_ne (by omega), sw_up_ne (by omega)]
  have tpw : ∀ j, wb_pi T' b w j = if j = T (b + 11) w then T (b + 20) 0 else wb_pi T b w j := fun j => by
    unfold wb_pi
    rw [← hT', show b + 13 + w.toNat = b + (13 + w.toNat) by omega, sw_up_ne (by omega), sw_up_eq]
    unfold sw_ui
    rw [sw_up_ne (by omega), sw_up_ne (by omega), sw_up_ne (by omega), sw_up_ne (by omega)]
  have tpx : ∀ x j, 0 ≤ x ∧ x < 7 → x ≠ w → wb_pi T' b x j = wb_pi T b x j := fun x j hx hxw => by
    unfold wb_pi
    rw [h _ (by omega) (by omega) (by omega) (by omega) (by omega) (by omega)]
  have e0 : T' b = T b := h b (by omega) (by omega) (by omega) (by omega) (by omega) (by omega)
  have e1 : T' (b + 1) = T (b + 1) := h _ (by omega) (by omega) (by omega) (by omega) (by omega) (by omega)
  have e2 : T' (b + 2) = T (b + 2) := h _ (by omega) (by omega) (by omega) (by omega) (by omega) (by omega)
  have e3 : T' (b + 3) = T (b + 3) := h _ (by omega) (by omega) (by omega) (by omega) (by omega) (by omega)
  have e4 : T' (b + 4) = T (b + 4) := h _ (by omega) (by omega) (by omega) (by omega) (by omega) (by omega)
  have e5 : T' (b + 5) = T (b + 5) := h _ (by omega) (by omega) (by omega) (by omega) (by omega) (by omega)
  have e6 : T' (b + 6) = T (b + 6) := h _ (by omega) (by omega) (by omega) (by omega) (by omega) (by omega)
  have e7 : T' (b + 7) = T (b + 7) := h _ (by omega) (by omega) (by omega) (by omega) (by omega) (by omega)
  have e8 : T' (b + 8) = T (b + 8) := h _ (by omega) (by omega) (by omega) (by omega) (by omega) (by omega)
  have e9 : T' (b + 9) = T (b + 9) := h _ (by omega) (by omega) (by omega) (by omega) (by omega) (by omega)
  have hd : wb_hd T' b = wb_hd T b := by funext x; unfold wb_hd; rw [e3]
  have t11w : T' (b + 11) w = T (b + 11) w + 1 := by rw [t11]; exact if_pos rfl
  have t11x : ∀ x, x ≠ w → T' (b + 11) x = T (b + 11) x := fun x hx => by rw [t11]; exact if_neg hx
  have o22 : ∀ s, s ≠ T (b + 20) 0 → T' (b + 22) s = T (b + 22) s := fun s hs => by rw [t22]; exact if_neg hs
  have o23 : ∀ s, s ≠ T (b + 20) 0 → T' (b + 23) s = T (b + 23) s := fun s hs => by rw [t23]; exact if_neg hs
  have n22 : T' (b + 22) (T (b + 20) 0) = 0 := by rw [t22]; exact if_pos rfl
  have n23 : T' (b + 23) (T (b + 20) 0) = w := by rw [t23]; exact if_pos rfl
  refine ⟨by rw [e1]; exact i1, ⟨by rw [e0]; exact i2.1, by rw [e0]; exact h1, by rw [e0]; exact i2.2.2.1, by rw [e0]; exact i2.2.2.2.1, by rw [t20]; omega⟩, ?_, ?_, ?_, ?_, ?_, ?_⟩
  · intro x hx
    obtain ⟨q1, q2, q3, q4, q5, q6, q7, q8⟩ := i7 x hx
    unfold wb_se
    rw [e2, e3, e4, e5, e6, e7, e8, e9, t20]
    refine ⟨q1, ?_, q3, q4, q5, q6, q7, ?_⟩
    · rcases q2 with q2 | ⟨p1, p2, p3, p4⟩
      · exact .inl q2
      · exact .inr ⟨p1, by omega, by rw [o22 _ (by omega)]; exact p3, by rw [o23 _ (by omega)]; exact p4⟩
    · by_cases hxw : x = w
      · rw [hxw, t11w]
        omega
      · rw [t11x x hxw]
        exact q8
  · intro x hx
    rw [e0] at hx
    have := i8 x hx
    unfold wb_cl at this ⊢
    rw [e3, e4, e5, e6, e7, e8, e9, t11x x (by omega)]
    exact this
  · intro x j hx hj
    by_cases hxw : x = w
    · subst hxw
      rw [t11w] at hj
      rw [tpw j]
      by_cases hjh : j = T (b + 11) x
      · rw [if_pos hjh, t20]
        exact ⟨by omega, n22, n23⟩
      · rw [if_neg hjh, t20]
        obtain ⟨q1, q2, q3⟩ := i9 x j hx ⟨hj.1, by omega⟩
        exact ⟨by omega, by rw [o22 _ (by omega)]; exact q2, by rw [o23 _ (by omega)]; exact q3⟩
    · rw [t11x x hxw] at hj
      rw [tpx x j hx hxw, t20]
      obtain ⟨q1, q2, q3⟩ := i9 x j hx hj
      exact ⟨by omega, by rw [o22 _ (by omega)]; exact q2, by rw [o23 _ (by omega)]; exact q3⟩
  · intro x i j hx hj
    by_cases hxw : x = w
    · subst hxw
      rw [t11w] at hj
      rw [tpw i, tpw j, if_neg (show ¬ i = T (b + 11) x by omega)]
      have q1 := (i9 x i hx ⟨hj.1, by omega⟩).1
      by_cases hjh : j = T (b + 11) x
      · rw [if_pos hjh]
        omega
      · rw [if_neg hjh]
        exact i10 x i j hx ⟨hj.1, by omega⟩
    · rw [t11x x hxw] at hj
      rw [tpx x i hx hxw, tpx x j hx hxw]
      exact i10 x i j hx hj
  · intro s hs
    rw [t20] at hs
    by_cases hsc : s = T (b + 20) 0
    · rw [hsc, n22, n23, t21]
      unfold sw_ui
      rw [if_pos rfl]
      exact ⟨hk, by decide, hw7⟩
    · rw [o22 s hsc, o23 s hsc, t21]
      unfold sw_ui
      rw [if_neg hsc]
      exact i11 s ⟨hs.1, by omega⟩
  · have hcn : ((T (b + 20) 0).toNat : Int) = T (b + 20) 0 := by omega
    have key : ∀ c, wb_ct (T' (b + 22)) c (T' (b + 20) 0).toNat = wb_ct (T (b + 22)) c (T (b + 20) 0).toNat + (if (0 : Int) = c then 1 else 0) := by
      intro c
      rw [t20, show (T (b + 20) 0 + 1).toNat = (T (b + 20) 0).toNat + 1 by omega]
      show wb_ct (T' (b + 22)) c (T (b + 20) 0).toNat + (if T' (b + 22) ((T (b + 20) 0).toNat : Int) = c then 1 else 0) = _
      rw [hcn, n22, t22, wb_ct_out _ (.inl (by omega))]
    rw [key, key, key, e0, e6, e7, hd, t11, t20, wb_s7_ui hw7]
    refine ⟨?_, ?_, ?_, ?_, c4⟩
    · rw [c0]; simp; omega
    · rw [c1]; simp
    · rw [c2]; simp
    · omega
theorem wb_com_iv {T : sw_T} {b : Nat} {N w k : Int} (I : wb_iv T b N) (hw : 0 ≤ w ∧ w < T b 1) (hk : 0 ≤ k ∧ k ≤ 99) (hc2 : T (b + 20) 0 < 120) (hh2 : T (b + 11) w < 16) : wb_iv (wb_com T b w k) b N := wb_wkf_iv (wb_lay_iv I hw hk hc2 hh2)
