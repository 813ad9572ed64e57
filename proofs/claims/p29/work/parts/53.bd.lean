/-! ===== the first sleeper wakes; a shirt comes; a shirt is taken ===== -/
/-- the first place from l on, below n, where f is not 0; n if there is none -/
def wb_fi (f : Int → Int) (n : Int) : Nat → Int → Int
  | 0, l => l
  | m + 1, l => if l < n then (if f l = 0 then wb_fi f n m (l + 1) else l) else l
theorem wb_fi_cg {f g : Int → Int} {n : Int} (h : ∀ w, 0 ≤ w ∧ w < n → f w = g w) : ∀ (m : Nat) (l : Int), 0 ≤ l → wb_fi f n m l = wb_fi g n m l := by
  intro m
  induction m with
  | zero => intro l _; rfl
  | succ m ih =>
    intro l hl
    unfold wb_fi
    by_cases h1 : l < n
    · rw [if_pos h1, if_pos h1, h l ⟨hl, h1⟩, ih (l + 1) (by omega)]
    · rw [if_neg h1, if_neg h1]
theorem wb_fi_ge {f : Int → Int} {n : Int} : ∀ (m : Nat) (l : Int), l ≤ wb_fi f n m l := by
  intro m
  induction m with
  | zero => intro l; exact Int.le_refl _
  | succ m ih =>
    intro l
    unfold wb_fi
    have := ih (l + 1)
    split
    · split <;> omega
    · omega
theorem wb_fi_le {f : Int → Int} {n : Int} : ∀ (m : Nat) (l : Int), wb_fi f n m l ≤ l + m := by
  intro m
  induction m with
  | zero => intro l; unfold wb_fi; omega
  | succ m ih =>
    intro l
    unfold wb_fi
    have := ih (l + 1)
    split
    · split <;> omega
    · omega
def wb_wkf (T : sw_T) (b : Nat) : sw_T := if wb_fi (T (b + 5)) (T b 1) 7 0 < T b 1 then sw_up (sw_up T (b + 5) (wb_fi (T (b + 5)) (T b 1) 7 0) 0) (b + 4) (wb_fi (T (b + 5)) (T b 1) 7 0) 0 else T
theorem wb_w31_2 {T : sw_T} {b : Nat} (h1 : 2 ≤ T b 1 ∧ T b 1 ≤ 7) (ha : ∀ w, 0 ≤ w ∧ w < 7 → T (b + 5) w = 0 ∨ T (b + 5) w = 1) : ∀ (k : Nat) (l : Int), 0 ≤ l → T b 1 - l ≤ k → ∀ m, k < m → l ≤ 7 → w31_2 b T m l = (if wb_fi (T (b + 5)) (T b 1) k l < T b 1 then some (.inr (sw_up (sw_up T (b + 5) (wb_fi (T (b + 5)) (T b 1) k l) 0) (b + 4) (wb_fi (T (b + 5)) (T b 1) k l) 0)) else some (.inl ())) := by
  intro k
  induction k with
  | zero =>
    intro l hl hk m hm hl7
    obtain ⟨m, rfl⟩ : ∃ q, m = q + 1 := ⟨m - 1, by omega⟩
    unfold w31_2
    rw [wb_r2 ⟨by omega, by omega⟩ ⟨by omega, by omega⟩, Option.bind_some, if_neg (by omega)]
    show _ = (if l < T b 1 then _ else _)
    rw [if_neg (by omega)]
  | succ k ih =>
    intro l hl hk m hm hl7
    obtain ⟨m, rfl⟩ : ∃ q, m = q + 1 := ⟨m - 1, by omega⟩
    unfold w31_2
    rw [wb_r2 ⟨by omega, by omega⟩ ⟨by omega, by omega⟩, Option.bind_some]
    unfold wb_fi
    by_cases h2 : l < T b 1
    · rw [if_pos h2, if_pos h2, wb_r2 ⟨by omega, by omega⟩ ⟨by omega, by omega⟩, Option.bind_some, if_pos (by omega), wb_ld ⟨hl, by omega⟩, Option.bind_some]
      have := ha l ⟨hl, by omega⟩
      rw [wb_r1 ⟨by omega, by omega⟩, Option.bind_some]
      by_cases h3 : T (b + 5) l = 0
      · rw [if_pos h3, if_pos h3]
        exact ih (l + 1) (by omega) (by omega) m (by omega) (by omega)
      · rw [if_neg h3, if_neg h3, wb_sb ⟨hl, by omega⟩ (.inl rfl), Option.bind_some, wb_st ⟨hl, by omega⟩, Option.bind_some, if_pos h2]
    · rw [if_neg h2, if_neg h2, if_neg h2]
theorem wb_w31 {T : sw_T} {b : Nat} (h1 : 2 ≤ T b 1 ∧ T b 1 ≤ 7) (ha : ∀ w, 0 ≤ w ∧ w < 7 → T (b + 5) w = 0 ∨ T (b + 5) w = 1) : w31 b T = some (wb_wkf T b) := by
  unfold w31 wb_wkf
  rw [wb_w31_2 h1 ha 7 0 (Int.le_refl _) (by omega) sw_N (by decide) (by decide)]
  by_cases h : wb_fi (T (b + 5)) (T b 1) 7 0 < T b 1
  · rw [if_pos h, if_pos h]
    rfl
  · rw [if_neg h, if_neg h]
    rfl
theorem wb_w108_2 {T : sw_T} {n : Int} (hn : T 222 4 = n) (h1 : 2 ≤ n ∧ n ≤ 7) (ha : ∀ w, 0 ≤ w ∧ w < n → T 222 (8 + 9 * w + 3) = 0 ∨ T 222 (8 + 9 * w + 3) = 1) : ∀ (k : Nat) (l : Int), 0 ≤ l → n - l ≤ k → ∀ m, k < m → l ≤ 7 → w108_2 T m l = some (wb_fi (fun w => T 222 (8 + 9 * w + 3)) n k l) := by
  intro k
  induction k with
  | zero =>
    intro l hl hk m hm hl7
    obtain ⟨m, rfl⟩ : ∃ q, m = q + 1 := ⟨m - 1, by omega⟩
    unfold w108_2
    rw [wb_ld (by decide), Option.bind_some, hn, wb_r2 ⟨by omega, by omega⟩ ⟨by omega, by omega⟩, Option.bind_some, if_neg (by omega)]
    rfl
  | succ k ih =>
    intro l hl hk m hm hl7
    obtain ⟨m, rfl⟩ : ∃ q, m = q + 1 := ⟨m - 1, by omega⟩
    unfold w108_2 wb_fi
    rw [wb_ld (by decide), Option.bind_some, hn, wb_r2 ⟨by omega, by omega⟩ ⟨by omega, by omega⟩, Option.bind_some]
    by_cases h2 : l < n
    · have := ha l ⟨hl, h2⟩
      rw [if_pos h2, if_pos h2, wb_w98 ⟨hl, by omega⟩ (by decide), Option.bind_some, wb_r1 ⟨by omega, by omega⟩, Option.bind_some]
      by_cases h3 : T 222 (8 + 9 * l + 3) = 0
      · rw [if_pos h3, if_pos h3]
        exact ih (l + 1) (by omega) (by omega) m (by omega) (by omega)
      · rw [if_neg h3, if_neg h3]
    · rw [if_neg h2, if_neg h2]
theorem wb_wkf_ok {T Tm : sw_T} {b : Nat} (R : wb_rp T b (Tm 222)) (h1 : 2 ≤ T b 1 ∧ T b 1 ≤ 7) (ha : ∀ w, 0 ≤ w ∧ w < 7 → T (b + 5) w = 0 ∨ T (b + 5) w = 1) : ∃ Tm1, w108 Tm = some Tm1 ∧ wb_rp (wb_wkf T b) b (Tm1 222) ∧ wb_fm Tm Tm1 := by
  have m3 : ∀ w, 0 ≤ w ∧ w < T b 1 → Tm 222 (8 + 9 * w + 3) = T (b + 5) w := fun w hw => wb_rd_st R h1.2 hw 5 (by decide)
  have mn : Tm 222 4 = T b 1 := (wb_rd_sc R h1.1).2.1
  have e := wb_fi_cg (f := fun w => Tm 222 (8 + 9 * w + 3)) (g := T (b + 5)) (n := T b 1) m3 7 0 (Int.le_refl _)
  have g0 := wb_fi_ge (f := T (b + 5)) (n := T b 1) 7 0
  have g1 := wb_fi_le (f := T (b + 5)) (n := T b 1) 7 0
  unfold w108 wb_wkf
  rw [wb_w108_2 mn h1 (fun w hw => by rw [m3 w hw]; exact ha w ⟨hw.1, by omega⟩) 7 0 (Int.le_refl _) (by omega) sw_N (by decide) (by decide), Option.bind_some, e]
  generalize wb_fi (T (b + 5)) (T b 1) 7 0 = i at g0 g1
  unfold w108_27
  rw [wb_ld (by decide), Option.bind_some, mn]
  by_cases h : i < T b 1
  · have hi7 : 0 ≤ i ∧ i < 7 := ⟨g0, by omega⟩
    rw [wb_r2 ⟨by omega, by omega⟩ ⟨by omega, by omega⟩, Option.bind_some, if_pos h, if_pos h, wb_w99 hi7 (by decide), Option.bind_some, wb_w99 hi7 (by decide), Option.bind_some]
    have r1 := wb_up_st R hi7 (v := 0) 5 (by decide)
    have r2 := wb_up_st r1 hi7 (v := 0) 4 (by decide)
    exact ⟨_, rfl, by rw [wb_m, wb_m]; exact r2, wb_fm.rf.up.up⟩
  · rw [if_neg h]
    rw [wb_r2 ⟨by omega, by omega⟩ ⟨by omega, by omega⟩, Option.bind_some, if_neg h]
    exact ⟨_, rfl, R, wb_fm.rf⟩
/-- a shirt comes onto her pile -/
def wb_lay (T : sw_T) (b : Nat) (w k : Int) : sw_T :=
  sw_up (sw_up (sw_up (sw_up (sw_up (sw_up T (b + 21) (T (b + 20) 0) k) (b + 22) (T (b + 20) 0) 0) (b + 23) (T (b + 20) 0) w) (b + 20) 0 (T (b + 20) 0 + 1)) (b + (13 + w.toNat)) (T (b + 11) w) (T (b + 20) 0)) (b + 11) w (T (b + 11) w + 1)
def wb_com (T : sw_T) (b : Nat) (w k : Int) : sw_T := wb_wkf (wb_lay T b w k) b
theorem wb_lay_rd {T : sw_T} {b : Nat} {w k : Int} (hw : 0 ≤ w ∧ w < 7) : wb_lay T b w k b = T b ∧ wb_lay T b w k (b + 1) = T (b + 1) ∧ wb_lay T b w k (b + 2) = T (b + 2) ∧ wb_lay T b w k (b + 3) = T (b + 3) ∧ wb_lay T b w k (b + 4) = T (b + 4) ∧ wb_lay T b w k (b + 5) = T (b + 5) := by
  unfold wb_lay
  refine ⟨?_, ?_, ?_, ?_, ?_, ?_⟩ <;> rw [sw_up_ne (by omega), sw_up_ne (by omega), sw_up_ne (by omega), sw_up_ne (by omega), sw_up_ne (by omega), sw_up_ne (by omega)]
theorem wb_com_ok {T Tm : sw_T} {b : Nat} {w k : Int} (R : wb_rp T b (Tm 222)) (h1 : 2 ≤ T b 1 ∧ T b 1 ≤ 7) (ha : ∀ w, 0 ≤ w ∧ w < 7 → T (b + 5) w = 0 ∨ T (b + 5) w = 1) (hc : 0 ≤ T (b + 20) 0 ∧ T (b + 20) 0 < 120) (hw : 0 ≤ w ∧ w < T b 1) (hh : 0 ≤ T (b + 11) w ∧ T (b + 11) w < 16) : w30 b T w k = some (T (b + 20) 0, wb_com T b w k) ∧ ∃ Tm1, w109 Tm w k = some (T (b + 20) 0, Tm1) ∧ wb_rp (wb_com T b w k) b (Tm1 222) ∧ wb_fm Tm Tm1 := by
  have hw7 : 0 ≤ w ∧ w < 7 := ⟨hw.1, by omega⟩
  obtain ⟨l0, l1, l2, l3, l4, l5⟩ := wb_lay_rd (T := T) (b := b) (k := k) hw7
  have h1' : 2 ≤ wb_lay T b w k b 1 ∧ wb_lay T b w k b 1 ≤ 7 := by rw [l0]; exact h1
  have ha' : ∀ w', 0 ≤ w' ∧ w' < 7 → wb_lay T b w k (b + 5) w' = 0 ∨ wb_lay T b w k (b + 5) w' = 1 := by rw [l5]; exact ha
  have hs : 0 ≤ T (b + 20) 0 ∧ T (b + 20) 0 < 120 := hc
  constructor
  · unfold w30 w52
    rw [wb_r1 ⟨by omega, by omega⟩, Option.bind_some, if_neg (by omega), wb_r2 ⟨by omega, by omega⟩ (by decide), Option.bind_some, if_pos hc.2, wb_st hs, Option.bind_some]
    simp only [sw_up_ne (show b + 20 ≠ b + 21 by omega), sw_up_ne (show b + 20 ≠ b + 22 by omega)]
    rw [wb_st hs, Option.bind_some]
    try simp only [sw_up_ne (show b + 20 ≠ b + 21 by omega), sw_up_ne (show b + 20 ≠ b + 22 by omega)]
    rw [wb_st hs, Option.bind_some, wb_pf, Option.bind_some]
    simp only [sw_up_ne (show b + 20 ≠ b + 21 by omega), sw_up_ne (show b + 20 ≠ b + 22 by omega), sw_up_ne (show b + 20 ≠ b + 23 by omega), sw_up_eq, Option.bind_some]
    rw [show sw_ui (T (b + 20)) 0 (T (b + 20) 0 + 1) 0 - 1 = T (b + 20) 0 by unfold sw_ui; rw [if_pos rfl]; omega]
    unfold w20
    rw [wb_r1 ⟨by omega, by omega⟩, Option.bind_some, if_neg (by omega), wb_r2 ⟨by omega, by omega⟩ (by decide), Option.bind_some, if_pos hw7.2, wb_ld hw7, Option.bind_some]
    simp only [sw_up_ne (show b + 11 ≠ b + 20 by omega), sw_up_ne (show b + 11 ≠ b + 21 by omega), sw_up_ne (show b + 11 ≠ b + 22 by omega), sw_up_ne (show b + 11 ≠ b + 23 by omega)]
    rw [wb_r1 ⟨by omega, by omega⟩, Option.bind_some, if_neg (by omega), wb_r2 ⟨by omega, by omega⟩ (by decide), Option.bind_some, if_pos hh.2, wb_rw hw7, Option.bind_some, wb_st ⟨hh.1, by omega⟩, Option.bind_some, wb_st hw7, Option.bind_some, Option.bind_some]
    rw [show b + 12 + 1 + w.toNat = b + (13 + w.toNat) by omega]
    have e := wb_w31 h1' ha'
    unfold wb_lay at e
    rw [e]
    rfl
  · have mc : Tm 222 5 = T (b + 20) 0 := (wb_rd_sc R h1.1).2.2.1
    have mh : Tm 222 (8 + 9 * w + 8) = T (b + 11) w := wb_rd_hgt R h1.2 hw
    have r1 := wb_up_shirt R hs.1 (v := k) 21 (by decide)
    have r2 := wb_up_shirt r1 hs.1 (v := 0) 22 (by decide)
    have r3 := wb_up_shirt r2 hs.1 (v := w) 23 (by decide)
    have e20 : sw_up (sw_up (sw_up T (b + 21) (T (b + 20) 0) k) (b + 22) (T (b + 20) 0) 0) (b + 23) (T (b + 20) 0) w (b + 20) = T (b + 20) := by rw [sw_up_ne (by omega), sw_up_ne (by omega), sw_up_ne (by omega)]
    have r4 := wb_up_came r3 (by rw [e20]; exact hc.1) (by
      intro t ht
      rw [e20]
      have : t = 21 ∨ t = 22 ∨ t = 23 := by omega
      rcases this with rfl | rfl | rfl
      · rw [sw_up_ne (by omega), sw_up_ne (by omega), sw_up_eq]
        unfold sw_ui
        rw [if_neg (by omega), if_neg (by omega), if_pos rfl, if_pos rfl]
      · rw [sw_up_ne (by omega), sw_up_eq]
        unfold sw_ui
        rw [if_neg (by omega), if_pos rfl, if_pos rfl]
      · rw [sw_up_eq]
        unfold sw_ui
        rw [if_pos rfl, if_pos rfl])
    rw [e20] at r4
    have r5 := wb_up_pile r4 hw7 (p := T (b + 11) w) (v := T (b + 20) 0) ⟨hh.1, hh.2⟩
    have e11 : sw_up (sw_up (sw_up (sw_up (sw_up T (b + 21) (T (b + 20) 0) k) (b + 22) (T (b + 20) 0) 0) (b + 23) (T (b + 20) 0) w) (b + 20) 0 (T (b + 20) 0 + 1)) (b + (13 + w.toNat)) (T (b + 11) w) (T (b + 20) 0) (b + 11) = T (b + 11) := by rw [sw_up_ne (by omega), sw_up_ne (by omega), sw_up_ne (by omega), sw_up_ne (by omega), sw_up_ne (by omega)]
    have r6 := wb_up_hgt r5 hw7 (v := T (b + 11) w + 1) (.inr (by
      rw [e11]
      refine ⟨rfl, ⟨hh.1, hh.2⟩, ?_⟩
      unfold wb_pi
      rw [show b + 13 + w.toNat = b + (13 + w.toNat) by omega, sw_up_eq]
      unfold sw_ui
      rw [if_pos rfl, if_pos rfl]))
    have r6' : wb_rp (wb_lay T b w k) b (sw_ui (sw_ui (sw_ui (sw_ui (sw_ui (sw_ui (Tm 222) 5 (T (b + 20) 0 + 1)) (183 + 3 * T (b + 20) 0 + 0) k) (183 + 3 * T (b + 20) 0 + 1) 0) (183 + 3 * T (b + 20) 0 + 2) w) (71 + 16 * w + T (b + 11) w) (T (b + 20) 0)) (8 + 9 * w + 8) (T (b + 11) w + 1)) := by
      rw [sw_ui_cm (i := 5) (j := 183 + 3 * T (b + 20) 0 + 0) (by omega), sw_ui_cm (i := 5) (j := 183 + 3 * T (b + 20) 0 + 1) (by omega), sw_ui_cm (i := 5) (j := 183 + 3 * T (b + 20) 0 + 2) (by omega)]
      exact r6
    unfold w109
    rw [wb_ld (by decide), Option.bind_some, Option.bind_some, wb_st (by decide), Option.bind_some, mc, wb_w103 hs (by decide), Option.bind_some, wb_w103 hs (by decide), Option.bind_some, wb_w103 hs (by decide), Option.bind_some, wb_w98 hw7 (by decide), Option.bind_some]
    have ei : sw_up (sw_up (sw_up (sw_up Tm 222 5 (T (b + 20) 0 + 1)) 222 (183 + 3 * T (b + 20) 0 + 0) k) 222 (183 + 3 * T (b + 20) 0 + 1) 0) 222 (183 + 3 * T (b + 20) 0 + 2) w 222 (8 + 9 * w + 8) = T (b + 11) w := by
      rw [wb_m, wb_m, wb_m, wb_m]
      unfold sw_ui
      rw [if_neg (by omega), if_neg (by omega), if_neg (by omega), if_neg (by omega)]
      exact mh
    rw [ei, wb_st ⟨by omega, by omega⟩, Option.bind_some, wb_w100 hw7 (by decide), Option.bind_some]
    have ei2 : sw_up (sw_up (sw_up (sw_up (sw_up Tm 222 5 (T (b + 20) 0 + 1)) 222 (183 + 3 * T (b + 20) 0 + 0) k) 222 (183 + 3 * T (b + 20) 0 + 1) 0) 222 (183 + 3 * T (b + 20) 0 + 2) w) 222 (71 + 16 * w + T (b + 11) w) (T (b + 20) 0) 222 (8 + 9 * w + 8) = T (b + 11) w := by
      rw [wb_m]
      unfold sw_ui
      rw [if_neg (by omega)]
      exact ei
    rw [ei2]
    have r7 : wb_rp (wb_lay T b w k) b (sw_up (sw_up (sw_up (sw_up (sw_up (sw_up Tm 222 5 (T (b + 20) 0 + 1)) 222 (183 + 3 * T (b + 20) 0 + 0) k) 222 (183 + 3 * T (b + 20) 0 + 1) 0) 222 (183 + 3 * T (b + 20) 0 + 2) w) 222 (71 + 16 * w + T (b + 11) w) (T (b + 20) 0)) 222 (8 + 9 * w + 8) (T (b + 11) w + 1) 222) := by
      rw [wb_m, wb_m, wb_m, wb_m, wb_m, wb_m]
      exact r6'
    obtain ⟨Tm1, e1, e2, e3⟩ := wb_wkf_ok r7 h1' ha'
    rw [e1, Option.bind_some]
    exact ⟨Tm1, rfl, e2, wb_fm.tr wb_fm.rf.up.up.up.up.up.up e3⟩
