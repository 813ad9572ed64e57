/-! ===== a rule for loops; hiring ===== -/
theorem wb_loop {f : Nat → sw_T → Int → Option sw_T} {n : Int} (P : Int → sw_T → Prop) (hs : ∀ (m : Nat) (T : sw_T) (l : Int), P l T → 0 ≤ l → l < n → ∃ T', f (m + 1) T l = f m T' (l + 1) ∧ P (l + 1) T') (he : ∀ (m : Nat) (T : sw_T), P n T → f (m + 1) T n = some T) : ∀ (k : Nat) (l : Int) (T : sw_T), 0 ≤ l → n - l = k → P l T → ∀ m, k < m → ∃ T', f m T l = some T' ∧ P n T' := by
  intro k
  induction k with
  | zero =>
    intro l T hl hk hp m hm
    obtain ⟨m, rfl⟩ : ∃ q, m = q + 1 := ⟨m - 1, by omega⟩
    obtain rfl : l = n := by omega
    exact ⟨T, he m T hp, hp⟩
  | succ k ih =>
    intro l T hl hk hp m hm
    obtain ⟨m, rfl⟩ : ∃ q, m = q + 1 := ⟨m - 1, by omega⟩
    obtain ⟨T', e, hp'⟩ := hs m T l hp hl (by omega)
    obtain ⟨T2, e2, hp2⟩ := ih (l + 1) T' (by omega) (by omega) hp' m (by omega)
    exact ⟨T2, e.trans e2, hp2⟩
theorem wb_w124_19 {v s : Int} (hs : 0 ≤ s ∧ s < 7) {T0 : sw_T} : ∃ T1, w124_19 v s sw_N T0 0 = some T1 ∧ wb_fm T0 T1 ∧ (∀ j, T1 222 j = if 8 + 9 * s ≤ j ∧ j < 8 + 9 * s + 9 then (if j = 8 + 9 * s then v else 0) else T0 222 j) := by
  refine wb_loop (f := w124_19 v s) (n := 9) (fun l T => wb_fm T0 T ∧ ∀ j, T 222 j = if 8 + 9 * s ≤ j ∧ j < 8 + 9 * s + l then (if j = 8 + 9 * s then v else 0) else T0 222 j) ?_ ?_ 9 0 T0 (by decide) (by decide) ⟨wb_fm.rf, fun j => by rw [if_neg (by omega)]⟩ sw_N (by decide)
  · rintro m T l ⟨hf, hj⟩ hl h9
    have e1 : w124_19 v s (m + 1) T l = w124_19 v s m (sw_up T 222 (8 + 9 * s + l) (if l = 0 then v else 0)) (l + 1) := by
      rw [w124_19, wb_r2 ⟨by omega, by omega⟩ (by decide), Option.bind_some, if_pos h9, wb_r1 ⟨by omega, by omega⟩, Option.bind_some]
      by_cases h0 : l = 0
      · rw [if_pos h0, if_pos h0, wb_w99 hs ⟨hl, h9⟩, Option.bind_some]
      · rw [if_neg h0, if_neg h0, wb_w99 hs ⟨hl, h9⟩, Option.bind_some]
    refine ⟨_, e1, hf.up, fun j => ?_⟩
    rw [wb_m]
    unfold sw_ui
    by_cases hjj : j = 8 + 9 * s + l
    · rw [if_pos hjj, if_pos (show 8 + 9 * s ≤ j ∧ j < 8 + 9 * s + (l + 1) by omega)]
      by_cases h0 : l = 0
      · rw [if_pos h0, if_pos (show j = 8 + 9 * s by omega)]
      · rw [if_neg h0, if_neg (show ¬ j = 8 + 9 * s by omega)]
    · rw [if_neg hjj, hj]
      by_cases h2 : 8 + 9 * s ≤ j ∧ j < 8 + 9 * s + l
      · rw [if_pos h2, if_pos (show 8 + 9 * s ≤ j ∧ j < 8 + 9 * s + (l + 1) by omega)]
      · rw [if_neg h2, if_neg (show ¬ (8 + 9 * s ≤ j ∧ j < 8 + 9 * s + (l + 1)) by omega)]
  · rintro m T ⟨hf, hj⟩
    rw [w124_19, wb_r2 (by decide) (by decide), Option.bind_some, if_neg (by decide)]
theorem wb_w26 {T : sw_T} {b : Nat} {v : Int} (h : 2 ≤ T b 1 ∧ T b 1 < 7) : w26 b T v = some (T b 1, sw_up (sw_up T (b + 2) (T b 1) v) b 1 (T b 1 + 1)) := by
  unfold w26
  rw [wb_r1 ⟨by omega, by omega⟩, Option.bind_some, if_neg (by omega), wb_r2 ⟨by omega, by omega⟩ (by decide), Option.bind_some, if_pos h.2, wb_st ⟨by omega, by omega⟩, Option.bind_some, wb_pf, Option.bind_some, sw_up_ne (show b ≠ b + 2 by omega)]
  have e : sw_up (sw_up T (b + 2) (T b 1) v) b 1 (T b 1 + 1) b 1 - 1 = T b 1 := by
    rw [wb_rdu, if_pos rfl, if_pos rfl]
    omega
  rw [e]
theorem wb_hire_iv {T : sw_T} {b : Nat} {N v : Int} (I : wb_iv T b N) (h6 : T b 1 < 7) (hv : 1 ≤ v ∧ v ≤ 9) : wb_iv (sw_up (sw_up T (b + 2) (T b 1) v) b 1 (T b 1 + 1)) b N := by
  obtain ⟨i1, i2, i7, i8, i9, i10, i11, i12⟩ := I
  have h : ∀ a, a ≠ b → a ≠ b + 2 → sw_up (sw_up T (b + 2) (T b 1) v) b 1 (T b 1 + 1) a = T a := fun a h1 h2 => by rw [sw_up_ne h1, sw_up_ne h2]
  have hb : ∀ i, sw_up (sw_up T (b + 2) (T b 1) v) b 1 (T b 1 + 1) b i = if i = 1 then T b 1 + 1 else T b i := fun i => by
    rw [wb_rdu, if_pos rfl, sw_up_ne (by omega)]
  have h2 : ∀ i, sw_up (sw_up T (b + 2) (T b 1) v) b 1 (T b 1 + 1) (b + 2) i = if i = T b 1 then v else T (b + 2) i := fun i => by
    rw [sw_up_ne (by omega), wb_rdu, if_pos rfl]
  generalize sw_up (sw_up T (b + 2) (T b 1) v) b 1 (T b 1 + 1) = T1 at h hb h2 ⊢
  have hp : ∀ w j, wb_pi T1 b w j = wb_pi T b w j := fun w j => by
    unfold wb_pi
    rw [h _ (by omega) (by omega)]
  have hd : wb_hd T1 b = wb_hd T b := by
    funext w
    unfold wb_hd
    rw [h _ (by omega) (by omega)]
  refine ⟨by rw [h (b + 1) (by omega) (by omega)]; exact i1, ⟨by rw [hb, if_neg (by decide)]; exact i2.1, by rw [hb, if_pos rfl]; omega, by rw [hb, if_neg (by decide)]; exact i2.2.2.1, by rw [hb, if_neg (by decide)]; exact i2.2.2.2.1, by rw [h (b + 20) (by omega) (by omega)]; exact i2.2.2.2.2⟩, ?_, ?_, ?_, ?_, ?_, ?_⟩
  · intro w hw
    have := i7 w hw
    unfold wb_se at this ⊢
    rw [h (b + 3) (by omega) (by omega), h (b + 4) (by omega) (by omega), h (b + 5) (by omega) (by omega), h (b + 6) (by omega) (by omega), h (b + 7) (by omega) (by omega), h (b + 8) (by omega) (by omega), h (b + 9) (by omega) (by omega), h (b + 11) (by omega) (by omega), h (b + 20) (by omega) (by omega), h (b + 22) (by omega) (by omega), h (b + 23) (by omega) (by omega), h2]
    refine ⟨?_, this.2⟩
    split
    · exact hv
    · exact this.1
  · intro w hw
    rw [hb, if_pos rfl] at hw
    have := i8 w ⟨by omega, hw.2⟩
    unfold wb_cl at this ⊢
    rw [h (b + 3) (by omega) (by omega), h (b + 4) (by omega) (by omega), h (b + 5) (by omega) (by omega), h (b + 6) (by omega) (by omega), h (b + 7) (by omega) (by omega), h (b + 8) (by omega) (by omega), h (b + 9) (by omega) (by omega), h (b + 11) (by omega) (by omega)]
    exact this
  · intro w j hw hj
    rw [h (b + 11) (by omega) (by omega)] at hj
    rw [hp, h (b + 20) (by omega) (by omega), h (b + 22) (by omega) (by omega), h (b + 23) (by omega) (by omega)]
    exact i9 w j hw hj
  · intro w i j hw hj
    rw [h (b + 11) (by omega) (by omega)] at hj
    rw [hp, hp]
    exact i10 w i j hw hj
  · intro x hx
    rw [h (b + 20) (by omega) (by omega)] at hx
    rw [h (b + 21) (by omega) (by omega), h (b + 22) (by omega) (by omega), h (b + 23) (by omega) (by omega)]
    exact i11 x hx
  · rw [hb, if_neg (by decide), h (b + 6) (by omega) (by omega), h (b + 7) (by omega) (by omega), h (b + 11) (by omega) (by omega), h (b + 20) (by omega) (by omega), h (b + 22) (by omega) (by omega), hd]
    exact i12
theorem wb_hire_rp {T : sw_T} {b : Nat} {N v : Int} {M M1 : Int → Int} (I : wb_iv T b N) (R : wb_rp T b M) (h6 : T b 1 < 7) (hM : ∀ j, M1 j = if 8 + 9 * T b 1 ≤ j ∧ j < 8 + 9 * T b 1 + 9 then (if j = 8 + 9 * T b 1 then v else 0) else (if j = 4 then T b 1 + 1 else M j)) : wb_rp (sw_up (sw_up T (b + 2) (T b 1) v) b 1 (T b 1 + 1)) b M1 := by
  have hst : 2 ≤ T b 1 ∧ T b 1 ≤ 7 := I.2.1.2.1
  obtain ⟨c3, c4, c5, c6, c7, c8, c9, c11⟩ := I.2.2.2.1 (T b 1) ⟨Int.le_refl _, h6⟩
  have h : ∀ a, a ≠ b → a ≠ b + 2 → sw_up (sw_up T (b + 2) (T b 1) v) b 1 (T b 1 + 1) a = T a := fun a h1 h2 => by rw [sw_up_ne h1, sw_up_ne h2]
  have hb : ∀ i, sw_up (sw_up T (b + 2) (T b 1) v) b 1 (T b 1 + 1) b i = if i = 1 then T b 1 + 1 else T b i := fun i => by
    rw [wb_rdu, if_pos rfl, sw_up_ne (by omega)]
  have h2 : ∀ i, sw_up (sw_up T (b + 2) (T b 1) v) b 1 (T b 1 + 1) (b + 2) i = if i = T b 1 then v else T (b + 2) i := fun i => by
    rw [sw_up_ne (by omega), wb_rdu, if_pos rfl]
  generalize sw_up (sw_up T (b + 2) (T b 1) v) b 1 (T b 1 + 1) = T1 at h hb h2 ⊢
  rintro j ⟨hj0, hj⟩
  rw [hM]
  rw [hb, if_pos rfl, h (b + 11) (by omega) (by omega), h (b + 20) (by omega) (by omega)] at hj
  by_cases hs : 8 + 9 * T b 1 ≤ j ∧ j < 8 + 9 * T b 1 + 9
  · rw [if_pos hs]
    by_cases h8 : j = 8 + 9 * T b 1 + 8
    · obtain ⟨d1, d2, d3, d4⟩ := wb_loc_hgt (w := T b 1) ⟨by omega, h6⟩
      have hen : wb_en T1 b j = 0 := by
        unfold wb_en
        rw [h8, ← d1, d2, d3, d4, h (b + 11) (by omega) (by omega), c11]
        rfl
      rw [hen, if_neg (by omega)]
    · obtain ⟨t, ht, hjt⟩ : ∃ t : Nat, (2 ≤ t ∧ t < 10) ∧ j = 8 + 9 * T b 1 + ((t : Int) - 2) := ⟨(j - 8 - 9 * T b 1).toNat + 2, by omega, by omega⟩
      obtain ⟨d1, d2, d3, d4⟩ := wb_loc_seat (t := t) (w := T b 1) ht ⟨by omega, h6⟩
      have hen : wb_en T1 b j = T1 (b + t) (T b 1) + (if t = 3 then 1 else 0) := by
        unfold wb_en
        rw [hjt, ← d1, d2, d3, d4]
      rw [hen]
      have : t = 2 ∨ t = 3 ∨ t = 4 ∨ t = 5 ∨ t = 6 ∨ t = 7 ∨ t = 8 ∨ t = 9 := by omega
      rcases this with rfl | rfl | rfl | rfl | rfl | rfl | rfl | rfl
      · rw [if_pos (by omega), h2, if_pos rfl, if_neg (by decide)]
        omega
      · rw [if_neg (by omega), h (b + 3) (by omega) (by omega), c3]
        rfl
      · rw [if_neg (by omega), h (b + 4) (by omega) (by omega), c4]
        rfl
      · rw [if_neg (by omega), h (b + 5) (by omega) (by omega), c5]
        rfl
      · rw [if_neg (by omega), h (b + 6) (by omega) (by omega), c6]
        rfl
      · rw [if_neg (by omega), h (b + 7) (by omega) (by omega), c7]
        rfl
      · rw [if_neg (by omega), h (b + 8) (by omega) (by omega), c8]
        rfl
      · rw [if_neg (by omega), h (b + 9) (by omega) (by omega), c9]
        rfl
  · rw [if_neg hs]
    by_cases h4 : j = 4
    · rw [if_pos h4, h4]
      show T b 1 + 1 = T1 b 1 + 0
      rw [hb, if_pos rfl]
      omega
    · rw [if_neg h4]
      have hjr : wb_rl T b j := by
        refine ⟨hj0, ?_⟩
        rcases hj with g | ⟨g1, g2, g3, g4⟩ | g
        · exact .inl (by omega)
        · refine .inr (.inl ⟨g1, g2, ?_, g4⟩)
          by_cases hq : (j - 71) / 16 = T b 1
          · rw [hq, c11] at g4
            omega
          · omega
        · exact .inr (.inr g)
      rw [R j hjr]
      have hji := wb_j_ki hj0
      unfold wb_en
      by_cases k0 : wb_k j = 0
      · rw [k0] at hji ⊢
        have hne : wb_i j ≠ 1 := fun hi => by
          rw [hi] at hji
          exact h4 (hji.symm.trans rfl)
        show T b (wb_i j) + _ = T1 b (wb_i j) + _
        rw [hb, if_neg hne]
      · by_cases k2 : wb_k j = 2
        · rw [k2] at hji ⊢
          have hne : wb_i j ≠ T b 1 := fun hi => by
            rw [hi] at hji
            have := (wb_loc_seat (t := 2) (w := T b 1) (by decide) ⟨by omega, h6⟩).1
            omega
          rw [h2, if_neg hne]
        · rw [h _ (by omega) (by omega)]
theorem wb_hire {T Tm : sw_T} {b : Nat} {N v : Int} (I : wb_iv T b N) (R : wb_rp T b (Tm 222)) (h6 : T b 1 < 7) (hv : 1 ≤ v ∧ v ≤ 9) : ∃ T1 Tm1, w26 b T v = some (T b 1, T1) ∧ w124 Tm v = some (T b 1, Tm1) ∧ wb_iv T1 b N ∧ wb_rp T1 b (Tm1 222) ∧ wb_fc b T T1 ∧ wb_fm Tm Tm1 ∧ T1 b 1 = T b 1 + 1 := by
  have h1 : 2 ≤ T b 1 ∧ T b 1 ≤ 7 := I.2.1.2.1
  have m4 : Tm 222 4 = T b 1 := (wb_rd_sc R h1.1).2.1
  obtain ⟨Tm1, e1, e2, e3⟩ := wb_w124_19 (v := v) (s := T b 1) ⟨by omega, h6⟩ (T0 := sw_up Tm 222 4 (T b 1 + 1))
  refine ⟨_, Tm1, wb_w26 ⟨h1.1, h6⟩, ?_, wb_hire_iv I h6 hv, wb_hire_rp I R h6 (fun j => ?_), (wb_fc.rf.up (by decide)).u0, wb_fm.tr wb_fm.rf.up e2, by rw [wb_rdu, if_pos rfl, if_pos rfl]⟩
  · unfold w124
    rw [wb_ld (by decide), Option.bind_some, Option.bind_some, wb_st (by decide), Option.bind_some, m4, e1, Option.bind_some]
  · rw [e3, wb_m]
    rfl
