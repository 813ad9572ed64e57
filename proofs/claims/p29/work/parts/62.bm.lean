/-! ===== a room stays a room: from the near end, from the far end, a division ===== -/
theorem wb_iv_le {T : sw_T} {b : Nat} {N N' : Int} (I : wb_iv T b N) (h : N ≤ N') : wb_iv T b N' :=
  wb_iv_mild I h (fun _ _ _ _ _ => rfl) (fun w hw => by obtain ⟨-, -, q3, q4, -, q6, q7, -⟩ := I.2.2.1 w hw; exact ⟨q3, q4, by omega, by omega⟩) (fun _ _ => ⟨rfl, rfl, rfl, rfl⟩)
theorem wb_iv_f3 {T : sw_T} {b : Nat} {N v : Int} (I : wb_iv T b N) (hv : 0 ≤ v ∧ v ≤ N) : wb_iv (sw_up T b 3 v) b N := by
  obtain ⟨i1, i2, i7, i8, i9, i10, i11, i12⟩ := I
  have h : ∀ a, a ≠ b → sw_up T b 3 v a = T a := fun a ha => sw_up_ne ha
  have e : ∀ i, sw_up T b 3 v b i = if i = 3 then v else T b i := fun i => by rw [sw_up_eq]; rfl
  have hp : ∀ w j, wb_pi (sw_up T b 3 v) b w j = wb_pi T b w j := fun w j => wb_pi_ne (by omega)
  have hd : wb_hd (sw_up T b 3 v) b = wb_hd T b := wb_hd_ne (by omega)
  refine ⟨by rw [h (b + 1) (by omega)]; exact i1, ⟨by rw [e]; exact i2.1, by rw [e]; exact i2.2.1, by rw [e]; exact i2.2.2.1, by rw [e]; exact hv, by rw [h (b + 20) (by omega)]; exact i2.2.2.2.2⟩, ?_, ?_, ?_, ?_, ?_, ?_⟩
  · intro w hw
    have := i7 w hw
    unfold wb_se at this ⊢
    rw [h (b + 2) (by omega), h (b + 3) (by omega), h (b + 4) (by omega), h (b + 5) (by omega), h (b + 6) (by omega), h (b + 7) (by omega), h (b + 8) (by omega), h (b + 9) (by omega), h (b + 11) (by omega), h (b + 20) (by omega), h (b + 22) (by omega), h (b + 23) (by omega)]
    exact this
  · intro w hw
    rw [e, if_neg (by decide)] at hw
    have := i8 w hw
    unfold wb_cl at this ⊢
    rw [h (b + 3) (by omega), h (b + 4) (by omega), h (b + 5) (by omega), h (b + 6) (by omega), h (b + 7) (by omega), h (b + 8) (by omega), h (b + 9) (by omega), h (b + 11) (by omega)]
    exact this
  · intro w j hw hj
    rw [h (b + 11) (by omega)] at hj
    rw [hp, h (b + 20) (by omega), h (b + 22) (by omega), h (b + 23) (by omega)]
    exact i9 w j hw hj
  · intro w i j hw hj
    rw [h (b + 11) (by omega)] at hj
    rw [hp, hp]
    exact i10 w i j hw hj
  · intro x hx
    rw [h (b + 20) (by omega)] at hx
    rw [h (b + 21) (by omega), h (b + 22) (by omega), h (b + 23) (by omega)]
    exact i11 x hx
  · rw [e, if_neg (by decide), h (b + 6) (by omega), h (b + 7) (by omega), h (b + 11) (by omega), h (b + 20) (by omega), h (b + 22) (by omega), hd]
    exact i12
/-- what a taking leaves, divided or not -/
theorem wb_tak_iv {T0 : sw_T} {b : Nat} {N w s : Int} (J : wb_iv (wb_tk0 T0 b w s) b N) (hw : 0 ≤ w ∧ w < T0 b 1) (hs : 0 ≤ s ∧ s < T0 (b + 20) 0) (hh : T0 (b + 11) w < 16) : wb_iv (wb_tak T0 b w s) b (N + 1) := by
  obtain ⟨⟨k1, k2⟩, k3, k4, k5, k6, k7⟩ := wb_tk0_rd (T := T0) (b := b) (w := w) (s := s)
  obtain ⟨l1, l3, l4, l5, l6⟩ := wb_tk1_rd (T := T0) (b := b) (w := w) (s := s)
  unfold wb_tak
  split
  · rename_i hd
    have hk := (J.2.2.2.2.2.2.1 s (by rw [k6]; exact hs)).1
    rw [k7] at hk
    have h3 := J.2.1.2.2.2.1
    rw [k2] at h3
    have J1 := wb_iv_work (s := s) (v := T0 (b + 21) s - T0 (b + 21) s / 2) (wb_iv_le J (show N ≤ N + 1 by omega)) (by omega)
    have J2 := wb_iv_f3 (v := T0 b 3 + 1) J1 (by omega)
    exact wb_com_iv (T := wb_tk1 T0 b w s) J2 (by rw [l1]; exact hw) (by omega) (by rw [l6]; exact hd.2) (by rw [l5]; exact hh)
  · exact wb_iv_le J (by omega)
theorem wb_near_iv {T : sw_T} {b : Nat} {N w : Int} (I : wb_iv T b N) (hw : 0 ≤ w ∧ w < T b 1) (hh : 1 ≤ T (b + 11) w) (hhand : T (b + 3) w = -1) : wb_iv (wb_tak (sw_up T (b + 11) w (T (b + 11) w - 1)) b w (wb_pi T b w (T (b + 11) w - 1))) b (N + 1) := by
  have h1 : 2 ≤ T b 1 ∧ T b 1 ≤ 7 := I.2.1.2.1
  have hw7 : 0 ≤ w ∧ w < 7 := ⟨hw.1, by omega⟩
  have h16 := (I.2.2.1 w hw7).2.2.2.2.2.2.2
  obtain ⟨hs, -, -⟩ := I.2.2.2.2.1 w (T (b + 11) w - 1) hw7 ⟨by omega, by omega⟩
  have x0 : sw_up T (b + 11) w (T (b + 11) w - 1) b = T b := sw_up_ne (by omega)
  have x20 : sw_up T (b + 11) w (T (b + 11) w - 1) (b + 20) = T (b + 20) := sw_up_ne (by omega)
  have x11 : sw_up T (b + 11) w (T (b + 11) w - 1) (b + 11) w = T (b + 11) w - 1 := by rw [sw_up_eq]; exact if_pos rfl
  refine wb_tak_iv ?_ (by rw [x0]; exact hw) (by rw [x20]; exact hs) (by rw [x11]; omega)
  have hpi : ∀ j, wb_pi (wb_tk0 (sw_up T (b + 11) w (T (b + 11) w - 1)) b w (wb_pi T b w (T (b + 11) w - 1))) b w j = wb_pi T b w j := fun j => by
    unfold wb_tk0
    rw [wb_pi_ne (by omega), wb_pi_ne (by omega), wb_pi_ne (by omega), wb_pi_ne (by omega), wb_pi_ne (by omega), wb_pi_ne (by omega)]
  refine wb_iv_take (o := w) (d := 0) (i0 := T (b + 11) w - 1) (w := w) (s := wb_pi T b w (T (b + 11) w - 1)) I hw hw (.inl rfl) hhand ⟨by omega, by omega⟩ rfl ?_ ?_ ?_ ?_ ?_ ?_ ?_ ?_ ?_ ?_
  · intro a a0 a3 a4 a7 a11 a13 a22 a23
    unfold wb_tk0
    rw [sw_up_ne a23, sw_up_ne a22, sw_up_ne a0, sw_up_ne a4, sw_up_ne a3, sw_up_ne a11]
  · unfold wb_tk0
    simp [wb_rdu]
  · unfold wb_tk0
    rw [sw_up_ne (by omega), sw_up_ne (by omega), sw_up_ne (by omega), sw_up_ne (by omega), sw_up_eq, sw_up_ne (by omega)]
  · unfold wb_tk0
    rw [sw_up_ne (by omega), sw_up_ne (by omega), sw_up_ne (by omega), sw_up_eq, sw_up_ne (by omega), sw_up_ne (by omega)]
  · unfold wb_tk0
    rw [sw_up_ne (by omega), sw_up_ne (by omega), sw_up_ne (by omega), sw_up_ne (by omega), sw_up_ne (by omega), sw_up_ne (by omega)]
    funext x
    unfold sw_ui
    split
    · rename_i hx
      rw [hx]
      omega
    · rfl
  · unfold wb_tk0
    rw [sw_up_ne (by omega), sw_up_ne (by omega), sw_up_ne (by omega), sw_up_ne (by omega), sw_up_ne (by omega), sw_up_eq]
  · unfold wb_tk0
    rw [sw_up_ne (by omega), sw_up_eq, sw_up_ne (by omega), sw_up_ne (by omega), sw_up_ne (by omega), sw_up_ne (by omega)]
  · unfold wb_tk0
    rw [sw_up_eq, sw_up_ne (by omega), sw_up_ne (by omega), sw_up_ne (by omega), sw_up_ne (by omega), sw_up_ne (by omega)]
  · intro j hj
    exact ⟨j, ⟨hj.1, by omega⟩, hpi j, I.2.2.2.2.2.1 w j (T (b + 11) w - 1) hw7 ⟨hj.1, hj.2, by omega⟩⟩
  · intro i j hj
    rw [hpi, hpi]
    exact I.2.2.2.2.2.1 w i j hw7 ⟨hj.1, hj.2.1, by omega⟩
theorem wb_far_iv {T : sw_T} {b : Nat} {N w o : Int} (I : wb_iv T b N) (hw : 0 ≤ w ∧ w < T b 1) (hhw : T (b + 11) w = 0) (ho : 0 ≤ o ∧ o < T b 1) (hoh : 1 ≤ T (b + 11) o) (hhand : T (b + 3) w = -1) : wb_iv (wb_tak (sw_up (wb_sh (sw_up T (b + 7) w (T (b + 7) w + 1)) b o) (b + 11) o (T (b + 11) o - 1)) b w (wb_pi T b o 0)) b (N + 1) := by
  have h1 : 2 ≤ T b 1 ∧ T b 1 ≤ 7 := I.2.1.2.1
  have hw7 : 0 ≤ w ∧ w < 7 := ⟨hw.1, by omega⟩
  have ho7 : 0 ≤ o ∧ o < 7 := ⟨ho.1, by omega⟩
  have hwo : w ≠ o := by intro h; rw [h] at hhw; omega
  have h16 := (I.2.2.1 o ho7).2.2.2.2.2.2.2
  obtain ⟨hs, -, -⟩ := I.2.2.2.2.1 o 0 ho7 ⟨by omega, by omega⟩
  generalize hT0 : sw_up (wb_sh (sw_up T (b + 7) w (T (b + 7) w + 1)) b o) (b + 11) o (T (b + 11) o - 1) = T0
  have t : ∀ a, a ≠ b + 7 → a ≠ b + 11 → a ≠ b + (13 + o.toNat) → T0 a = T a := fun a h7 h11 h13 => by rw [← hT0, sw_up_ne h11, wb_sh_ne h13, sw_up_ne h7]
  have t11 : T0 (b + 11) = sw_ui (T (b + 11)) o (T (b + 11) o - 1) := by rw [← hT0, sw_up_eq, wb_sh_ne (by omega), sw_up_ne (by omega)]
  have t7 : T0 (b + 7) = sw_ui (T (b + 7)) w (T (b + 7) w + 1) := by rw [← hT0, sw_up_ne (by omega), wb_sh_ne (by omega), sw_up_eq]
  have tp : ∀ j, 0 ≤ j ∧ j < 15 → wb_pi T0 b o j = wb_pi T b o (j + 1) := fun j hj => by
    unfold wb_pi
    rw [← hT0, sw_up_ne (by omega)]
    unfold wb_sh
    rw [if_pos (by omega), sw_up_ne (by omega)]
    exact if_pos hj
  have hpi : ∀ j, wb_pi (wb_tk0 T0 b w (wb_pi T b o 0)) b o j = wb_pi T0 b o j := fun j => by
    unfold wb_tk0
    rw [wb_pi_ne (by omega), wb_pi_ne (by omega), wb_pi_ne (by omega), wb_pi_ne (by omega), wb_pi_ne (by omega)]
  refine wb_tak_iv ?_ (by rw [t b (by omega) (by omega) (by omega)]; exact hw) (by rw [t (b + 20) (by omega) (by omega) (by omega)]; exact hs) (by rw [t11, show sw_ui (T (b + 11)) o (T (b + 11) o - 1) w = T (b + 11) w from if_neg hwo]; omega)
  refine wb_iv_take (o := o) (d := 1) (i0 := 0) (w := w) (s := wb_pi T b o 0) I hw ho (.inr rfl) hhand ⟨by omega, by omega⟩ rfl ?_ ?_ ?_ ?_ ?_ ?_ ?_ ?_ ?_ ?_
  · intro a a0 a3 a4 a7 a11 a13 a22 a23
    unfold wb_tk0
    rw [sw_up_ne a23, sw_up_ne a22, sw_up_ne a0, sw_up_ne a4, sw_up_ne a3, t a a7 a11 a13]
  · unfold wb_tk0
    simp [wb_rdu, t b (by omega) (by omega) (by omega)]
  · unfold wb_tk0
    rw [sw_up_ne (by omega), sw_up_ne (by omega), sw_up_ne (by omega), sw_up_ne (by omega), sw_up_eq, t (b + 3) (by omega) (by omega) (by omega)]
  · unfold wb_tk0
    rw [sw_up_ne (by omega), sw_up_ne (by omega), sw_up_ne (by omega), sw_up_eq, sw_up_ne (by omega), t (b + 4) (by omega) (by omega) (by omega)]
  · unfold wb_tk0
    rw [sw_up_ne (by omega), sw_up_ne (by omega), sw_up_ne (by omega), sw_up_ne (by omega), sw_up_ne (by omega), t7]
  · unfold wb_tk0
    rw [sw_up_ne (by omega), sw_up_ne (by omega), sw_up_ne (by omega), sw_up_ne (by omega), sw_up_ne (by omega), t11]
  · unfold wb_tk0
    rw [sw_up_ne (by omega), sw_up_eq, sw_up_ne (by omega), sw_up_ne (by omega), sw_up_ne (by omega), t (b + 22) (by omega) (by omega) (by omega)]
  · unfold wb_tk0
    rw [sw_up_eq, sw_up_ne (by omega), sw_up_ne (by omega), sw_up_ne (by omega), sw_up_ne (by omega), t (b + 23) (by omega) (by omega) (by omega)]
  · intro j hj
    refine ⟨j + 1, ⟨by omega, by omega⟩, ?_, fun h => I.2.2.2.2.2.1 o 0 (j + 1) ho7 ⟨by omega, by omega, by omega⟩ h.symm⟩
    rw [hpi, tp j ⟨hj.1, by omega⟩]
  · intro i j hj
    rw [hpi, hpi, tp i ⟨hj.1, by omega⟩, tp j ⟨by omega, by omega⟩]
    exact I.2.2.2.2.2.1 o (i + 1) (j + 1) ho7 ⟨by omega, by omega, by omega⟩
theorem wb_act_iv {T Tm : sw_T} {b : Nat} {N w sh : Int} (I : wb_iv T b N) (R : wb_rp T b (Tm 222)) (hw : 0 ≤ w ∧ w < T b 1) : wb_iv (wb_act T b w sh) b (N + 1) := by
  have h1 : 2 ≤ T b 1 ∧ T b 1 ≤ 7 := I.2.1.2.1
  have hw7 : 0 ≤ w ∧ w < 7 := ⟨hw.1, by omega⟩
  have h16 := (I.2.2.1 w hw7).2.2.2.2.2.2.2
  unfold wb_act
  split
  · exact wb_slp_iv I hw
  · split
    · rename_i hB
      exact wb_iv_le (wb_sew_iv I hw hB) (by omega)
    · rename_i hB
      have hB' : T (b + 3) w = -1 := by omega
      split
      · exact wb_near_iv I hw (by omega) hB'
      · split
        · exact wb_mis_iv I hw
        · rename_i hC hD
          obtain ⟨-, -, ch⟩ := wb_cho_ok I R hw
          rcases ch with h | ⟨h3, h4, h5⟩
          · exact absurd (.inr h) hD
          · have hoh : 1 ≤ T (b + 11) (wb_cho T b w) := by unfold wb_cn at h4; omega
            exact wb_far_iv I hw (by omega) h3 hoh hB'
