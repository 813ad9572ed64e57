/-! ===== from the near end, from the far end ===== -/
theorem wb_w21 {T : sw_T} {b : Nat} {w : Int} (hw : 0 ≤ w ∧ w < 7) (hh : 1 ≤ T (b + 11) w ∧ T (b + 11) w ≤ 16) : w21 b T w = some (wb_pi T b w (T (b + 11) w - 1), sw_up T (b + 11) w (T (b + 11) w - 1)) := by
  unfold w21
  rw [wb_r1 ⟨by omega, by omega⟩, Option.bind_some, if_neg (by omega), wb_r2 ⟨by omega, by omega⟩ (by decide), Option.bind_some, if_pos hw.2, wb_ld hw, Option.bind_some, wb_r1 ⟨by omega, by omega⟩, Option.bind_some, if_neg (by omega), wb_r2 ⟨by omega, by omega⟩ (by decide), Option.bind_some, if_pos (by omega), wb_st hw, Option.bind_some, wb_rw hw, Option.bind_some, wb_ld ⟨by omega, by omega⟩, Option.bind_some, sw_up_ne (by omega)]
  unfold wb_pi
  rw [show b + 12 + 1 + w.toNat = b + 13 + w.toNat by omega]
theorem wb_near_ok {T Tm : sw_T} {b : Nat} {N w : Int} (I : wb_iv T b N) (R : wb_rp T b (Tm 222)) (hw : 0 ≤ w ∧ w < T b 1) (hh : 1 ≤ T (b + 11) w) : ∃ T0, w21 b T w = some (wb_pi T b w (T (b + 11) w - 1), T0) ∧ T0 = sw_up T (b + 11) w (T (b + 11) w - 1) ∧ w37 b T0 w (wb_pi T b w (T (b + 11) w - 1)) = some (wb_tak T0 b w (wb_pi T b w (T (b + 11) w - 1))) ∧ ∃ Tm1, w111 Tm w = some Tm1 ∧ wb_rp (wb_tak T0 b w (wb_pi T b w (T (b + 11) w - 1))) b (Tm1 222) ∧ wb_fm Tm Tm1 := by
  obtain ⟨⟨hl, -, -⟩, ⟨-, h1, -, -, hc⟩, hse, -, hpi, -, hsh, -⟩ := id I
  have hw7 : 0 ≤ w ∧ w < 7 := ⟨hw.1, by omega⟩
  have h16 : 0 ≤ T (b + 11) w ∧ T (b + 11) w ≤ 16 := (hse w hw7).2.2.2.2.2.2.2
  obtain ⟨hs, hs2, hs3⟩ := hpi w (T (b + 11) w - 1) hw7 ⟨by omega, by omega⟩
  have hk := (hsh _ hs).1
  have ha : ∀ w, 0 ≤ w ∧ w < 7 → T (b + 5) w = 0 ∨ T (b + 5) w = 1 := fun w hw => (hse w hw).2.2.2.1
  have mh : Tm 222 (8 + 9 * w + 8) = T (b + 11) w := wb_rd_hgt R h1.2 hw
  have mp := wb_rd_pile R h1.2 hw (p := T (b + 11) w - 1) ⟨by omega, by omega⟩ h16.2
  have r1 := wb_up_hgt R hw7 (v := T (b + 11) w - 1) (.inl (by omega))
  have x0 : sw_up T (b + 11) w (T (b + 11) w - 1) b = T b := sw_up_ne (by omega)
  have x1 : sw_up T (b + 11) w (T (b + 11) w - 1) (b + 1) = T (b + 1) := sw_up_ne (by omega)
  have x5 : sw_up T (b + 11) w (T (b + 11) w - 1) (b + 5) = T (b + 5) := sw_up_ne (by omega)
  have x20 : sw_up T (b + 11) w (T (b + 11) w - 1) (b + 20) = T (b + 20) := sw_up_ne (by omega)
  have x21 : sw_up T (b + 11) w (T (b + 11) w - 1) (b + 21) = T (b + 21) := sw_up_ne (by omega)
  have x11 : sw_up T (b + 11) w (T (b + 11) w - 1) (b + 11) w = T (b + 11) w - 1 := by rw [sw_up_eq]; exact if_pos rfl
  have e1 : sw_up Tm 222 (8 + 9 * w + 8) (T (b + 11) w - 1) 222 (8 + 9 * w + 8) = T (b + 11) w - 1 := by rw [wb_m]; exact if_pos rfl
  have e2 : sw_up Tm 222 (8 + 9 * w + 8) (T (b + 11) w - 1) 222 (71 + 16 * w + (T (b + 11) w - 1)) = wb_pi T b w (T (b + 11) w - 1) := by
    rw [wb_m]
    unfold sw_ui
    rw [if_neg (by omega)]
    exact mp
  obtain ⟨g1, Tm1, g2, g3, g4⟩ := wb_tak_ok (T := sw_up T (b + 11) w (T (b + 11) w - 1)) (Tm := sw_up Tm 222 (8 + 9 * w + 8) (T (b + 11) w - 1)) (w := w) (s := wb_pi T b w (T (b + 11) w - 1)) (by rw [wb_m]; exact r1) (by rw [x0]; exact h1) (by rw [x1]; exact hl) (by rw [x5]; exact ha) (by rw [x20]; exact hc) (by rw [x20]; exact hs) (by rw [x21]; exact hk) (by rw [x0]; exact hw) (by rw [x11]; omega)
  refine ⟨_, wb_w21 hw7 ⟨hh, h16.2⟩, rfl, g1, Tm1, ?_, g3, wb_fm.tr wb_fm.rf.up g4⟩
  unfold w111
  rw [wb_w98 hw7 (by decide), Option.bind_some, mh, wb_w99 hw7 (by decide), Option.bind_some, wb_w98 hw7 (by decide), Option.bind_some, e1, wb_w101 hw7 ⟨by omega, by omega⟩, Option.bind_some, e2, g2, Option.bind_some]
/-- a row moved down by one -/
def wb_shf (f : Int → Int) : Int → Int := fun j => if 0 ≤ j ∧ j < 15 then f (j + 1) else f j
def wb_sh (T : sw_T) (b : Nat) (o : Int) : sw_T := fun a => if a = b + (13 + o.toNat) then wb_shf (T a) else T a
theorem wb_sh_ne {T : sw_T} {b : Nat} {o : Int} {a : Nat} (h : a ≠ b + (13 + o.toNat)) : wb_sh T b o a = T a := if_neg h
theorem wb_w22_33 {b : Nat} {f : Int → Int} {T0 : sw_T} {o : Int} (ho : 0 ≤ o ∧ o < 7) (x : Int) : ∀ (k : Nat) (p : Int) (T : sw_T), 1 ≤ p → 16 - p ≤ k → p ≤ 16 → (∀ a, a ≠ b + (13 + o.toNat) → T a = T0 a) → (∀ j, T (b + (13 + o.toNat)) j = if 0 ≤ j ∧ j < p - 1 then f (j + 1) else f j) → ∀ m, k < m → ∃ T1, w22_33 b o x m T p = some T1 ∧ (∀ a, a ≠ b + (13 + o.toNat) → T1 a = T0 a) ∧ T1 (b + (13 + o.toNat)) = wb_shf f := by
  intro k
  induction k with
  | zero =>
    intro p T hp hk hp2 hT hr m hm
    obtain ⟨m, rfl⟩ : ∃ q, m = q + 1 := ⟨m - 1, by omega⟩
    unfold w22_33
    rw [wb_r2 ⟨by omega, by omega⟩ (by decide), Option.bind_some, if_neg (by omega)]
    refine ⟨T, rfl, hT, ?_⟩
    funext j
    rw [hr j]
    unfold wb_shf
    rw [show p - 1 = 15 by omega]
  | succ k ih =>
    intro p T hp hk hp2 hT hr m hm
    obtain ⟨m, rfl⟩ : ∃ q, m = q + 1 := ⟨m - 1, by omega⟩
    unfold w22_33
    rw [wb_r2 ⟨by omega, by omega⟩ (by decide), Option.bind_some]
    by_cases h : p < 16
    · rw [if_pos h, wb_rw ho, Option.bind_some, Option.bind_some, wb_ld ⟨by omega, by omega⟩, Option.bind_some, wb_st ⟨by omega, by omega⟩, Option.bind_some]
      rw [show b + 12 + 1 + o.toNat = b + (13 + o.toNat) by omega]
      refine ih (p + 1) _ (by omega) (by omega) (by omega) (fun a ha => by rw [sw_up_ne ha]; exact hT a ha) (fun j => ?_) m (by omega)
      have ep : T (b + (13 + o.toNat)) p = f p := by rw [hr p, if_neg (by omega)]
      rw [sw_up_eq, ep]
      unfold sw_ui
      by_cases hj : j = p - 1
      · rw [if_pos hj, if_pos (by omega), hj, show p - 1 + 1 = p by omega]
      · rw [if_neg hj, hr j]
        by_cases hj2 : 0 ≤ j ∧ j < p - 1
        · rw [if_pos hj2, if_pos (by omega)]
        · rw [if_neg hj2, if_neg (by omega)]
    · rw [if_neg h]
      refine ⟨T, rfl, hT, ?_⟩
      funext j
      rw [hr j]
      unfold wb_shf
      rw [show p - 1 = 15 by omega]
theorem wb_w22 {T : sw_T} {b : Nat} {o : Int} (ho : 0 ≤ o ∧ o < 7) (hh : 1 ≤ T (b + 11) o ∧ T (b + 11) o ≤ 16) : w22 b T o = some (wb_pi T b o 0, sw_up (wb_sh T b o) (b + 11) o (T (b + 11) o - 1)) := by
  unfold w22
  rw [wb_r1 ⟨by omega, by omega⟩, Option.bind_some, if_neg (by omega), wb_r2 ⟨by omega, by omega⟩ (by decide), Option.bind_some, if_pos ho.2, wb_ld ho, Option.bind_some, wb_r2 ⟨by omega, by omega⟩ (by decide), Option.bind_some, if_neg (by omega), wb_rw ho, Option.bind_some, wb_ld (by decide), Option.bind_some]
  obtain ⟨T1, e1, e2, e3⟩ := wb_w22_33 (b := b) (f := T (b + (13 + o.toNat))) (T0 := T) ho (T (b + 12 + 1 + o.toNat) 0) 15 1 T (by decide) (by decide) (by decide) (fun _ _ => rfl) (fun j => by rw [if_neg (by omega)]) sw_N (by decide)
  have e4 : T1 = wb_sh T b o := by
    funext a
    unfold wb_sh
    by_cases ha : a = b + (13 + o.toNat)
    · rw [if_pos ha, ha]
      exact e3
    · rw [if_neg ha]
      exact e2 a ha
  rw [e1, Option.bind_some, e4, wb_ld ho, Option.bind_some, wb_st ho, Option.bind_some, wb_sh_ne (by omega)]
  unfold wb_pi
  rw [show b + 12 + 1 + o.toNat = b + 13 + o.toNat by omega]
/-- the reference's row moved -/
def wb_sm (M : Int → Int) (o g : Int) : Int → Int := fun i => if 71 + 16 * o ≤ i ∧ i < 71 + 16 * o + g then M (i + 1) else M i
theorem wb_sh_ok {T : sw_T} {b : Nat} {M : Int → Int} {o : Int} (R : wb_rp T b M) (ho : 0 ≤ o ∧ o < T b 1) (h7 : T b 1 ≤ 7) (hg : 0 ≤ T (b + 11) o ∧ T (b + 11) o ≤ 15) (hx : M (71 + 16 * o + T (b + 11) o) = wb_pi T b o (T (b + 11) o)) : wb_rp (wb_sh T b o) b (wb_sm M o (T (b + 11) o)) := by
  intro j hj
  have ho7 : 0 ≤ o ∧ o < 7 := ⟨ho.1, by omega⟩
  have hj' : wb_rl T b j := by
    unfold wb_rl at hj ⊢
    rw [wb_sh_ne (by omega), wb_sh_ne (by omega), wb_sh_ne (by omega)] at hj
    exact hj
  unfold wb_sm
  by_cases hr : 71 + 16 * o ≤ j ∧ j < 71 + 16 * o + T (b + 11) o
  · rw [if_pos hr]
    obtain ⟨p, rfl⟩ : ∃ p, j = 71 + 16 * o + p := ⟨j - (71 + 16 * o), by omega⟩
    obtain ⟨d1, d2, d3, d4⟩ := wb_loc_pile (w := o) (p := p) ho7 ⟨by omega, by omega⟩
    have e1 : wb_en (wb_sh T b o) b (71 + 16 * o + p) = wb_pi T b o (p + 1) := by
      unfold wb_en wb_sh wb_pi
      rw [← d1, d2, d3, d4, if_pos rfl]
      unfold wb_shf
      rw [if_pos (by omega), show b + 13 + o.toNat = b + (13 + o.toNat) by omega]
      omega
    rw [e1]
    by_cases hp : p + 1 = T (b + 11) o
    · rw [hp, show 71 + 16 * o + p + 1 = 71 + 16 * o + T (b + 11) o by omega]
      exact hx
    · rw [show 71 + 16 * o + p + 1 = 71 + 16 * o + (p + 1) by omega]
      exact wb_rd_pile R h7 ho ⟨by omega, by omega⟩ (by omega)
  · rw [if_neg hr, R j hj']
    unfold wb_en
    rw [wb_sh_ne]
    intro hk
    apply hr
    have hk2 : wb_k j = 13 + o.toNat := by omega
    have hj2 := wb_j_ki hj'.1
    rw [hk2] at hj2
    have hi := hj'.2
    unfold wb_k at hk2
    split at hk2
    · omega
    · split at hk2
      · split at hk2 <;> omega
      · split at hk2
        · split at hk2 <;> omega
        · split at hk2
          · have ho2 : (j - 71) / 16 = o := by omega
            rw [ho2] at hi
            omega
          · omega
theorem wb_w112_26 {M : Int → Int} {o g : Int} (ho : 0 ≤ o ∧ o < 7) (hg : 0 ≤ g ∧ g ≤ 15) (hM : M (8 + 9 * o + 8) = g) (x y : Int) {T0 : sw_T} : ∀ (k : Nat) (p : Int) (T : sw_T), 0 ≤ p → g - p ≤ k → p ≤ g → wb_fm T0 T → T 222 = wb_sm M o p → ∀ m, k < m → ∃ T1, w112_26 x o y m T p = some T1 ∧ wb_fm T0 T1 ∧ T1 222 = wb_sm M o g := by
  intro k
  have hhd : ∀ p, wb_sm M o p (8 + 9 * o + 8) = g := fun p => by
    unfold wb_sm
    rw [if_neg (by omega)]
    exact hM
  induction k with
  | zero =>
    intro p T hp hk hp2 hT hr m hm
    obtain ⟨m, rfl⟩ : ∃ q, m = q + 1 := ⟨m - 1, by omega⟩
    unfold w112_26
    rw [wb_w98 ho (by decide), Option.bind_some, hr, hhd, wb_r2 ⟨by omega, by omega⟩ ⟨by omega, by omega⟩, Option.bind_some, if_neg (by omega)]
    exact ⟨T, rfl, hT, by rw [hr, show p = g by omega]⟩
  | succ k ih =>
    intro p T hp hk hp2 hT hr m hm
    obtain ⟨m, rfl⟩ : ∃ q, m = q + 1 := ⟨m - 1, by omega⟩
    unfold w112_26
    rw [wb_w98 ho (by decide), Option.bind_some, hr, hhd, wb_r2 ⟨by omega, by omega⟩ ⟨by omega, by omega⟩, Option.bind_some]
    by_cases h : p < g
    · rw [if_pos h, wb_w101 ho ⟨by omega, by omega⟩, Option.bind_some, wb_st ⟨by omega, by omega⟩, Option.bind_some]
      refine ih (p + 1) _ (by omega) (by omega) (by omega) hT.up ?_ m (by omega)
      rw [wb_m, hr]
      funext i
      unfold sw_ui wb_sm
      by_cases hi : i = 71 + 16 * o + p
      · rw [if_pos hi, if_neg (by omega), if_pos (by omega), hi]
        rw [show 71 + 16 * o + (p + 1) = 71 + 16 * o + p + 1 by omega]
      · rw [if_neg hi]
        by_cases hi2 : 71 + 16 * o ≤ i ∧ i < 71 + 16 * o + p
        · rw [if_pos hi2, if_pos (by omega)]
        · rw [if_neg hi2, if_neg (by omega)]
    · rw [if_neg h]
      exact ⟨T, rfl, hT, by rw [hr, show p = g by omega]⟩
theorem wb_far_ok {T Tm : sw_T} {b : Nat} {N w o : Int} (I : wb_iv T b N) (R : wb_rp T b (Tm 222)) (hw : 0 ≤ w ∧ w < T b 1) (hh : T (b + 11) w = 0) (ho : 0 ≤ o ∧ o < T b 1) (hoh : 1 ≤ T (b + 11) o) : ∃ T0, T0 = sw_up (wb_sh (sw_up T (b + 7) w (T (b + 7) w + 1)) b o) (b + 11) o (T (b + 11) o - 1) ∧ w34_81 b T w o = some (wb_pi T b o 0, T0) ∧ w37 b T0 w (wb_pi T b o 0) = some (wb_tak T0 b w (wb_pi T b o 0)) ∧ ∃ Tm1, w112 Tm w o = some Tm1 ∧ wb_rp (wb_tak T0 b w (wb_pi T b o 0)) b (Tm1 222) ∧ wb_fm Tm Tm1 := by
  obtain ⟨⟨hl, -, -⟩, ⟨-, h1, -, -, hc⟩, hse, -, hpi, -, hsh, -⟩ := id I
  have hw7 : 0 ≤ w ∧ w < 7 := ⟨hw.1, by omega⟩
  have ho7 : 0 ≤ o ∧ o < 7 := ⟨ho.1, by omega⟩
  have hwo : w ≠ o := by intro h; rw [h] at hh; omega
  have h16 : 0 ≤ T (b + 11) o ∧ T (b + 11) o ≤ 16 := (hse o ho7).2.2.2.2.2.2.2
  obtain ⟨hs, hs2, hs3⟩ := hpi o 0 ho7 ⟨by omega, by omega⟩
  have hk := (hsh _ hs).1
  have ha : ∀ w, 0 ≤ w ∧ w < 7 → T (b + 5) w = 0 ∨ T (b + 5) w = 1 := fun w hw => (hse w hw).2.2.2.1
  have mh : Tm 222 (8 + 9 * o + 8) = T (b + 11) o := wb_rd_hgt R h1.2 ho
  have mt : Tm 222 (8 + 9 * w + 5) = T (b + 7) w := wb_rd_st R h1.2 hw 7 (by decide)
  have mp := wb_rd_pile R h1.2 ho (p := 0) ⟨by omega, by omega⟩ h16.2
  have mq := wb_rd_pile R h1.2 ho (p := T (b + 11) o - 1) ⟨by omega, by omega⟩ h16.2
  -- the class
  have c7 : sw_up T (b + 7) w (T (b + 7) w + 1) (b + 11) = T (b + 11) := sw_up_ne (by omega)
  have cl := wb_w22 (T := sw_up T (b + 7) w (T (b + 7) w + 1)) (b := b) ho7 (by rw [c7]; exact ⟨hoh, h16.2⟩)
  rw [c7] at cl
  have cp : wb_pi (sw_up T (b + 7) w (T (b + 7) w + 1)) b o 0 = wb_pi T b o 0 := by unfold wb_pi; rw [sw_up_ne (by omega)]
  rw [cp] at cl
  -- the reference: the height, then the row, then the taking
  have r1 := wb_up_hgt R ho7 (v := T (b + 11) o - 1) (.inl (by omega))
  have x11 : sw_up T (b + 11) o (T (b + 11) o - 1) (b + 11) o = T (b + 11) o - 1 := by rw [sw_up_eq]; exact if_pos rfl
  have x0 : sw_up T (b + 11) o (T (b + 11) o - 1) b = T b := sw_up_ne (by omega)
  have xp : ∀ p, wb_pi (sw_up T (b + 11) o (T (b + 11) o - 1)) b o p = wb_pi T b o p := fun p => by unfold wb_pi; rw [sw_up_ne (by omega)]
  have r2 := wb_sh_ok r1 (by rw [x0]; exact ho) (by rw [x0]; exact h1.2) (by rw [x11]; omega) (by
    rw [x11, xp]
    unfold sw_ui
    rw [if_neg (by omega)]
    exact mq)
  rw [x11] at r2
  have r3 := wb_up_st r2 hw7 (v := T (b + 7) w + 1) 7 (by decide)
  have eT : sw_up (wb_sh (sw_up T (b + 11) o (T (b + 11) o - 1)) b o) (b + 7) w (T (b + 7) w + 1) = sw_up (wb_sh (sw_up T (b + 7) w (T (b + 7) w + 1)) b o) (b + 11) o (T (b + 11) o - 1) := by
    funext a
    by_cases h7 : a = b + 7
    · subst h7
      rw [sw_up_eq, sw_up_ne (show b + 7 ≠ b + 11 by omega), wb_sh_ne (by omega), sw_up_ne (by omega), wb_sh_ne (by omega), sw_up_eq]
    · by_cases h11 : a = b + 11
      · subst h11
        rw [sw_up_ne h7, wb_sh_ne (by omega), sw_up_eq, sw_up_eq, wb_sh_ne (by omega), sw_up_ne h7]
      · rw [sw_up_ne h7, sw_up_ne h11]
        unfold wb_sh
        split
        · rw [sw_up_ne h7, sw_up_ne h11]
        · rw [sw_up_ne h7, sw_up_ne h11]
  rw [eT] at r3
  generalize hT0 : sw_up (wb_sh (sw_up T (b + 7) w (T (b + 7) w + 1)) b o) (b + 11) o (T (b + 11) o - 1) = T0 at r3 cl
  have t : ∀ a, a ≠ b + 7 → a ≠ b + 11 → a ≠ b + (13 + o.toNat) → T0 a = T a := fun a h7 h11 h13 => by rw [← hT0, sw_up_ne h11, wb_sh_ne h13, sw_up_ne h7]
  have t11 : T0 (b + 11) w = T (b + 11) w := by
    rw [← hT0, sw_up_eq]
    unfold sw_ui
    rw [if_neg hwo, wb_sh_ne (by omega), sw_up_ne (by omega)]
  obtain ⟨Tm2, e1, e2, e3⟩ := wb_w112_26 (M := sw_ui (Tm 222) (8 + 9 * o + 8) (T (b + 11) o - 1)) (o := o) (g := T (b + 11) o - 1) ho7 (by omega) (if_pos rfl) w (wb_pi T b o 0) (T0 := Tm) 15 0 (sw_up Tm 222 (8 + 9 * o + 8) (T (b + 11) o - 1)) (by decide) (by omega) (by omega) wb_fm.rf.up (by
    rw [wb_m]
    funext i
    unfold wb_sm
    rw [if_neg (by omega)]) sw_N (by decide)
  have e5 : Tm2 222 (8 + 9 * w + 5) = T (b + 7) w := by
    rw [e3]
    unfold wb_sm sw_ui
    rw [if_neg (by omega), if_neg (by omega)]
    exact mt
  obtain ⟨g1, Tm1, g2, g3, g4⟩ := wb_tak_ok (T := T0) (Tm := sw_up Tm2 222 (8 + 9 * w + 5) (T (b + 7) w + 1)) (w := w) (s := wb_pi T b o 0) (by rw [wb_m, e3]; exact r3) (by rw [t b (by omega) (by omega) (by omega)]; exact h1) (by rw [t (b + 1) (by omega) (by omega) (by omega)]; exact hl) (by rw [t (b + 5) (by omega) (by omega) (by omega)]; exact ha) (by rw [t (b + 20) (by omega) (by omega) (by omega)]; exact hc) (by rw [t (b + 20) (by omega) (by omega) (by omega)]; exact hs) (by rw [t (b + 21) (by omega) (by omega) (by omega)]; exact hk) (by rw [t b (by omega) (by omega) (by omega)]; exact hw) (by rw [t11, hh]; decide)
  refine ⟨T0, rfl, ?_, g1, Tm1, ?_, g3, wb_fm.tr e2 (wb_fm.tr wb_fm.rf.up g4)⟩
  · unfold w34_81
    rw [wb_r2 ⟨by omega, by omega⟩ (by decide), Option.bind_some, if_neg (by omega), wb_ld hw7, Option.bind_some, wb_st hw7, Option.bind_some, cl, Option.bind_some]
  · unfold w112
    rw [wb_w101 ho7 (by decide), Option.bind_some, mp, wb_w98 ho7 (by decide), Option.bind_some, mh, wb_w99 ho7 (by decide), Option.bind_some, e1, Option.bind_some, wb_w100 hw7 (by decide), Option.bind_some, e5, g2, Option.bind_some]
