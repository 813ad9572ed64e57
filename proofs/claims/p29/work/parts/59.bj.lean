/-! ===== a room stays a room: sewing ===== -/
theorem wb_hd_up {T : sw_T} {b : Nat} {w v : Int} : wb_hd (sw_up T (b + 3) w v) b = sw_ui (wb_hd T b) w (if v = -1 then 0 else 1) := by
  funext x
  unfold wb_hd sw_ui
  rw [wb_rdu, if_pos rfl]
  by_cases hx : x = w
  · rw [if_pos hx, if_pos hx]
  · rw [if_neg hx, if_neg hx]
theorem wb_hd_ne {T : sw_T} {b a : Nat} {k v : Int} (h : a ≠ b + 3) : wb_hd (sw_up T a k v) b = wb_hd T b := by
  funext x
  unfold wb_hd
  rw [sw_up_ne (by omega)]
theorem wb_pi_ne {T : sw_T} {b a : Nat} {k v w j : Int} (h : a ≠ b + 13 + w.toNat) : wb_pi (sw_up T a k v) b w j = wb_pi T b w j := by
  unfold wb_pi
  rw [sw_up_ne (by omega)]
/-- a shirt's work alone -/
theorem wb_iv_work {T : sw_T} {b : Nat} {N s v : Int} (I : wb_iv T b N) (hv : 0 ≤ v ∧ v ≤ 99) : wb_iv (sw_up T (b + 21) s v) b N := by
  obtain ⟨i1, i2, i7, i8, i9, i10, i11, i12⟩ := I
  have h : ∀ a, a ≠ b + 21 → sw_up T (b + 21) s v a = T a := fun a ha => sw_up_ne ha
  have hp : ∀ w j, 0 ≤ w ∧ w < 7 → wb_pi (sw_up T (b + 21) s v) b w j = wb_pi T b w j := fun w j hw => wb_pi_ne (by omega)
  have hd : wb_hd (sw_up T (b + 21) s v) b = wb_hd T b := wb_hd_ne (by omega)
  refine ⟨by rw [h (b + 1) (by omega)]; exact i1, by rw [h b (by omega), h (b + 20) (by omega)]; exact i2, ?_, ?_, ?_, ?_, ?_, ?_⟩
  · intro w hw
    have := i7 w hw
    unfold wb_se at this ⊢
    rw [h (b + 2) (by omega), h (b + 3) (by omega), h (b + 4) (by omega), h (b + 5) (by omega), h (b + 6) (by omega), h (b + 7) (by omega), h (b + 8) (by omega), h (b + 9) (by omega), h (b + 11) (by omega), h (b + 20) (by omega), h (b + 22) (by omega), h (b + 23) (by omega)]
    exact this
  · intro w hw
    rw [h b (by omega)] at hw
    have := i8 w hw
    unfold wb_cl at this ⊢
    rw [h (b + 3) (by omega), h (b + 4) (by omega), h (b + 5) (by omega), h (b + 6) (by omega), h (b + 7) (by omega), h (b + 8) (by omega), h (b + 9) (by omega), h (b + 11) (by omega)]
    exact this
  · intro w j hw hj
    rw [h (b + 11) (by omega)] at hj
    rw [hp w j hw, h (b + 20) (by omega), h (b + 22) (by omega), h (b + 23) (by omega)]
    exact i9 w j hw hj
  · intro w i j hw hj
    rw [h (b + 11) (by omega)] at hj
    rw [hp w i hw, hp w j hw]
    exact i10 w i j hw hj
  · intro x hx
    rw [h (b + 20) (by omega)] at hx
    rw [h (b + 22) (by omega), h (b + 23) (by omega), wb_rdu, if_pos rfl]
    obtain ⟨q1, q2, q3⟩ := i11 x hx
    refine ⟨?_, q2, q3⟩
    split
    · exact hv
    · exact q1
  · rw [h b (by omega), h (b + 6) (by omega), h (b + 7) (by omega), h (b + 11) (by omega), h (b + 20) (by omega), h (b + 22) (by omega), hd]
    exact i12
/-- a shirt is sewn: its place, her hand, her count -/
theorem wb_iv_done {T : sw_T} {b : Nat} {N w s v : Int} (I : wb_iv T b N) (hw : 0 ≤ w ∧ w < T b 1) (hs : T (b + 3) w = s) (hn : s ≠ -1) (hv : v = T (b + 6) w + 1) : wb_iv (sw_up (sw_up (sw_up T (b + 22) s 2) (b + 3) w (-1)) (b + 6) w v) b N := by
  obtain ⟨i1, i2, i7, i8, i9, i10, i11, c0, c1, c2, c3, c4⟩ := I
  have h1 : 2 ≤ T b 1 ∧ T b 1 ≤ 7 := i2.2.1
  have hc := i2.2.2.2.2
  have hw7 : 0 ≤ w ∧ w < 7 := ⟨hw.1, by omega⟩
  obtain ⟨-, hha, -, -, h6, -, -, -⟩ := i7 w hw7
  rw [hs] at hha
  rcases hha with hha | ⟨hs1, hs2, hs3, hs4⟩
  · exact absurd hha hn
  generalize hT' : sw_up (sw_up (sw_up T (b + 22) s 2) (b + 3) w (-1)) (b + 6) w v = T'
  have h : ∀ a, a ≠ b + 22 → a ≠ b + 3 → a ≠ b + 6 → T' a = T a := fun a x1 x2 x3 => by rw [← hT', sw_up_ne x3, sw_up_ne x2, sw_up_ne x1]
  have t22 : T' (b + 22) = sw_ui (T (b + 22)) s 2 := by rw [← hT', sw_up_ne (by omega), sw_up_ne (by omega), sw_up_eq]
  have t3 : T' (b + 3) = sw_ui (T (b + 3)) w (-1) := by rw [← hT', sw_up_ne (by omega), sw_up_eq, sw_up_ne (by omega)]
  have t6 : T' (b + 6) = sw_ui (T (b + 6)) w v := by rw [← hT', sw_up_eq, sw_up_ne (by omega), sw_up_ne (by omega)]
  have hp : ∀ x j, 0 ≤ x ∧ x < 7 → wb_pi T' b x j = wb_pi T b x j := fun x j hx => by unfold wb_pi; rw [h _ (by omega) (by omega) (by omega)]
  have hd : wb_hd T' b = sw_ui (wb_hd T b) w 0 := by
    funext x
    unfold wb_hd
    rw [t3]
    unfold sw_ui
    by_cases hx : x = w
    · rw [if_pos hx, if_pos hx]; rfl
    · rw [if_neg hx, if_neg hx]
  have e0 : T' b = T b := h b (by omega) (by omega) (by omega)
  have e11 : T' (b + 11) = T (b + 11) := h _ (by omega) (by omega) (by omega)
  have e20 : T' (b + 20) = T (b + 20) := h _ (by omega) (by omega) (by omega)
  have e23 : T' (b + 23) = T (b + 23) := h _ (by omega) (by omega) (by omega)
  refine ⟨by rw [h (b + 1) (by omega) (by omega) (by omega)]; exact i1, by rw [e0, e20]; exact i2, ?_, ?_, ?_, ?_, ?_, ?_⟩
  · intro x hx
    obtain ⟨q1, q2, q3, q4, q5, q6, q7, q8⟩ := i7 x hx
    unfold wb_se
    rw [h (b + 2) (by omega) (by omega) (by omega), h (b + 4) (by omega) (by omega) (by omega), h (b + 5) (by omega) (by omega) (by omega), h (b + 7) (by omega) (by omega) (by omega), h (b + 8) (by omega) (by omega) (by omega), h (b + 9) (by omega) (by omega) (by omega), e11, e20, e23, t22, t3, t6]
    unfold sw_ui
    by_cases hxw : x = w
    · subst hxw
      rw [if_pos rfl, if_pos rfl]
      exact ⟨q1, .inl rfl, q3, q4, by omega, q6, q7, q8⟩
    · rw [if_neg hxw, if_neg hxw]
      refine ⟨q1, ?_, q3, q4, q5, q6, q7, q8⟩
      rcases q2 with q2 | ⟨p1, p2, p3, p4⟩
      · exact .inl q2
      · refine .inr ⟨p1, p2, ?_, p4⟩
        rw [if_neg]
        · exact p3
        · intro hxs
          rw [hxs] at p4
          exact hxw (p4.symm.trans hs4)
  · intro x hx
    rw [e0] at hx
    obtain ⟨q1, q2, q3, q4, q5, q6, q7, q8⟩ := i8 x hx
    unfold wb_cl
    rw [h (b + 4) (by omega) (by omega) (by omega), h (b + 5) (by omega) (by omega) (by omega), h (b + 7) (by omega) (by omega) (by omega), h (b + 8) (by omega) (by omega) (by omega), h (b + 9) (by omega) (by omega) (by omega), e11, t3, t6]
    unfold sw_ui
    rw [if_neg (by omega), if_neg (by omega)]
    exact ⟨q1, q2, q3, q4, q5, q6, q7, q8⟩
  · intro x j hx hj
    rw [e11] at hj
    obtain ⟨q1, q2, q3⟩ := i9 x j hx hj
    rw [hp x j hx, e20, e23, t22]
    refine ⟨q1, ?_, q3⟩
    unfold sw_ui
    rw [if_neg]
    · exact q2
    · intro hxs
      rw [hxs, hs3] at q2
      exact absurd q2 (by decide)
  · intro x i j hx hj
    rw [e11] at hj
    rw [hp x i hx, hp x j hx]
    exact i10 x i j hx hj
  · intro x hx
    rw [e20] at hx
    obtain ⟨q1, q2, q3⟩ := i11 x hx
    rw [h (b + 21) (by omega) (by omega) (by omega), e23, t22]
    refine ⟨q1, ?_, q3⟩
    unfold sw_ui
    split
    · decide
    · exact q2
  · have hk : s < ((T (b + 20) 0).toNat : Int) := by omega
    rw [e0, e11, e20, t22, t6, hd, h (b + 7) (by omega) (by omega) (by omega), wb_ct_ui _ hs1 hk, wb_ct_ui _ hs1 hk, wb_ct_ui _ hs1 hk, hs3, wb_s7_ui hw7, wb_s7_ui hw7]
    have hdw : wb_hd T b w = 1 := by unfold wb_hd; rw [hs, if_neg hn]
    rw [hdw]
    refine ⟨?_, ?_, ?_, c3, c4⟩
    · rw [c0]; simp
    · rw [c1]; simp
    · rw [c2, hv]; simp; omega
theorem wb_sew_iv {T : sw_T} {b : Nat} {N w : Int} (I : wb_iv T b N) (hw : 0 ≤ w ∧ w < T b 1) (hh : T (b + 3) w ≠ -1) : wb_iv (wb_sew T b w) b N := by
  have h1 : 2 ≤ T b 1 ∧ T b 1 ≤ 7 := I.2.1.2.1
  have hw7 : 0 ≤ w ∧ w < 7 := ⟨hw.1, by omega⟩
  obtain ⟨hsp, hha, -, -, -, -, -, -⟩ := I.2.2.1 w hw7
  rcases hha with hha | ⟨hs1, hs2, hs3, hs4⟩
  · exact absurd hha hh
  have hk := (I.2.2.2.2.2.2.1 _ ⟨hs1, hs2⟩).1
  unfold wb_sew
  split
  · exact wb_iv_work I (by omega)
  · have J := wb_iv_work (s := T (b + 3) w) (v := 0) I (by decide)
    rw [wb_up_id (T := sw_up (sw_up T (b + 21) (T (b + 3) w) 0) (b + 22) (T (b + 3) w) 2) (by rw [sw_up_ne (by omega), sw_up_ne (by omega)]; exact hs4)]
    exact wb_iv_done J (by rw [sw_up_ne (by omega)]; exact hw) (by rw [sw_up_ne (by omega)]) hh (by rw [sw_up_ne (by omega)])
