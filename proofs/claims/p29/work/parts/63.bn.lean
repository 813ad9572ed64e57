/-! ===== frames; the minute, the minutes ===== -/
theorem wb_fc.u0 {b : Nat} {T T1 : sw_T} {k v : Int} (h : wb_fc b T T1) : wb_fc b T (sw_up T1 b k v) := fun a ha => by rw [sw_up_ne (by omega)]; exact h a ha
theorem wb_fc.sh {b : Nat} {T T1 : sw_T} {o : Int} (h : wb_fc b T T1) (ho : 0 ≤ o ∧ o < 7) : wb_fc b T (wb_sh T1 b o) := fun a ha => by rw [wb_sh_ne (by omega)]; exact h a ha
theorem wb_wkf_fc {b : Nat} {T : sw_T} : wb_fc b T (wb_wkf T b) := by
  unfold wb_wkf
  split
  · exact (wb_fc.rf.up (by decide)).up (by decide)
  · exact wb_fc.rf
theorem wb_com_fc {b : Nat} {T : sw_T} {w k : Int} (hw : 0 ≤ w ∧ w < 7) : wb_fc b T (wb_com T b w k) := by
  unfold wb_com
  refine wb_fc.tr ?_ wb_wkf_fc
  unfold wb_lay
  exact (((((wb_fc.rf.up (by decide)).up (by decide)).up (by decide)).up (by decide)).up (by omega)).up (by decide)
theorem wb_tk0_fc {b : Nat} {T : sw_T} {w s : Int} : wb_fc b T (wb_tk0 T b w s) := by
  unfold wb_tk0
  exact ((((wb_fc.rf.up (by decide)).up (by decide)).u0).up (by decide)).up (by decide)
theorem wb_tak_fc {b : Nat} {T : sw_T} {w s : Int} (hw : 0 ≤ w ∧ w < 7) : wb_fc b T (wb_tak T b w s) := by
  unfold wb_tak
  split
  · refine wb_fc.tr ?_ (wb_com_fc hw)
    unfold wb_tk1
    exact (wb_tk0_fc.up (by decide)).u0
  · exact wb_tk0_fc
theorem wb_act_fc {T Tm : sw_T} {b : Nat} {N w sh : Int} (I : wb_iv T b N) (R : wb_rp T b (Tm 222)) (hw : 0 ≤ w ∧ w < T b 1) : wb_fc b T (wb_act T b w sh) := by
  have h1 : 2 ≤ T b 1 ∧ T b 1 ≤ 7 := I.2.1.2.1
  have hw7 : 0 ≤ w ∧ w < 7 := ⟨hw.1, by omega⟩
  unfold wb_act
  split
  · unfold wb_slp
    exact wb_fc.rf.up (by decide)
  · split
    · unfold wb_sew
      split
      · exact wb_fc.rf.up (by decide)
      · exact ((((wb_fc.rf.up (by decide)).up (by decide)).up (by decide)).up (by decide)).up (by decide)
    · split
      · exact wb_fc.tr (wb_fc.rf.up (by decide)) (wb_tak_fc hw7)
      · split
        · unfold wb_mis
          split
          · exact (wb_fc.rf.up (by decide)).up (by decide)
          · exact (((wb_fc.rf.up (by decide)).up (by decide)).up (by decide)).up (by decide)
        · rename_i hD
          obtain ⟨-, -, ch⟩ := wb_cho_ok I R hw
          rcases ch with h | ⟨h3, h4, h5⟩
          · exact absurd (.inr h) hD
          · exact wb_fc.tr (((wb_fc.rf.up (by decide)).sh ⟨h3.1, by omega⟩).up (by decide)) (wb_tak_fc hw7)
/-- staff and settings stay -/
def wb_sm1 (b : Nat) (T T1 : sw_T) : Prop := T1 b 1 = T b 1 ∧ T1 (b + 1) = T (b + 1) ∧ T1 b 0 = T b 0
theorem wb_sm1.tr {b : Nat} {T T1 T2 : sw_T} (h : wb_sm1 b T T1) (h2 : wb_sm1 b T1 T2) : wb_sm1 b T T2 := ⟨h2.1.trans h.1, h2.2.1.trans h.2.1, h2.2.2.trans h.2.2⟩
theorem wb_sm1.rf {b : Nat} {T : sw_T} : wb_sm1 b T T := ⟨rfl, rfl, rfl⟩
theorem wb_sm1.up {b t : Nat} {T T1 : sw_T} {k v : Int} (h : wb_sm1 b T T1) (ht : 2 ≤ t) : wb_sm1 b T (sw_up T1 (b + t) k v) := ⟨by rw [sw_up_ne (by omega)]; exact h.1, by rw [sw_up_ne (by omega)]; exact h.2.1, by rw [sw_up_ne (by omega)]; exact h.2.2⟩
theorem wb_sm1.u0 {b : Nat} {T T1 : sw_T} {k v : Int} (h : wb_sm1 b T T1) (hk : 2 ≤ k) : wb_sm1 b T (sw_up T1 b k v) := ⟨by rw [wb_rdu, if_pos rfl, if_neg (by omega)]; exact h.1, by rw [sw_up_ne (by omega)]; exact h.2.1, by rw [wb_rdu, if_pos rfl, if_neg (by omega)]; exact h.2.2⟩
theorem wb_sm1.sh {b : Nat} {T T1 : sw_T} {o : Int} (h : wb_sm1 b T T1) : wb_sm1 b T (wb_sh T1 b o) := ⟨by rw [wb_sh_ne (by omega)]; exact h.1, by rw [wb_sh_ne (by omega)]; exact h.2.1, by rw [wb_sh_ne (by omega)]; exact h.2.2⟩
theorem wb_tak_sm {b : Nat} {T : sw_T} {w s : Int} : wb_sm1 b T (wb_tak T b w s) := by
  have h0 : wb_sm1 b T (wb_tk0 T b w s) := by
    unfold wb_tk0
    exact ((((wb_sm1.rf.up (by decide)).up (by decide)).u0 (by decide)).up (by decide)).up (by decide)
  unfold wb_tak
  split
  · unfold wb_com
    have h2 : wb_sm1 b T (wb_lay (wb_tk1 T b w s) b w (T (b + 21) s / 2)) := by
      unfold wb_lay wb_tk1
      exact ((((((((h0.up (by decide)).u0 (by decide)).up (by decide)).up (by decide)).up (by decide)).up (by decide)).up (by omega)).up (by decide))
    unfold wb_wkf
    split
    · exact (h2.up (by decide)).up (by decide)
    · exact h2
  · exact h0
theorem wb_act_sm {T : sw_T} {b : Nat} {w sh : Int} : wb_sm1 b T (wb_act T b w sh) := by
  unfold wb_act
  split
  · unfold wb_slp
    exact wb_sm1.rf.up (by decide)
  · split
    · unfold wb_sew
      split
      · exact wb_sm1.rf.up (by decide)
      · exact ((((wb_sm1.rf.up (by decide)).up (by decide)).up (by decide)).up (by decide)).up (by decide)
    · split
      · exact wb_sm1.tr (wb_sm1.rf.up (by decide)) wb_tak_sm
      · split
        · unfold wb_mis
          split
          · exact (wb_sm1.rf.up (by decide)).up (by decide)
          · exact (((wb_sm1.rf.up (by decide)).up (by decide)).up (by decide)).up (by decide)
        · exact wb_sm1.tr ((wb_sm1.rf.up (by decide)).sh.up (by decide)) wb_tak_sm
/-- all act in turn -/
theorem wb_acts {b : Nat} {sh : Int} : ∀ (k : Nat) (l N : Int) (T Tm : sw_T), wb_iv T b N → wb_rp T b (Tm 222) → ((sh = 1 ∧ Tm 221 9 = 0) ∨ (sh = 0 ∧ Tm 221 9 = 1)) → 0 ≤ l → T b 1 - l ≤ k → l ≤ 7 → ∀ m1 m2, k < m1 → k < m2 → ∃ T1 Tm1, w33_2 b sh m1 T l = some T1 ∧ w119_2 m2 Tm l = some Tm1 ∧ wb_iv T1 b (N + k) ∧ wb_rp T1 b (Tm1 222) ∧ wb_fc b T T1 ∧ wb_fm Tm Tm1 ∧ wb_sm1 b T T1 := by
  intro k
  induction k with
  | zero =>
    intro l N T Tm I R hs hl hk h7 m1 m2 h1 h2
    obtain ⟨m1, rfl⟩ : ∃ q, m1 = q + 1 := ⟨m1 - 1, by omega⟩
    obtain ⟨m2, rfl⟩ : ∃ q, m2 = q + 1 := ⟨m2 - 1, by omega⟩
    have hst : 2 ≤ T b 1 ∧ T b 1 ≤ 7 := I.2.1.2.1
    have m4 : Tm 222 4 = T b 1 := (wb_rd_sc R hst.1).2.1
    unfold w33_2 w119_2
    rw [wb_r2 ⟨by omega, by omega⟩ ⟨by omega, by omega⟩, Option.bind_some, if_neg (by omega), wb_ld (by decide), Option.bind_some, m4, wb_r2 ⟨by omega, by omega⟩ ⟨by omega, by omega⟩, Option.bind_some, if_neg (by omega)]
    exact ⟨T, Tm, rfl, rfl, wb_iv_le I (by omega), R, wb_fc.rf, wb_fm.rf, wb_sm1.rf⟩
  | succ k ih =>
    intro l N T Tm I R hs hl hk h7 m1 m2 h1 h2
    obtain ⟨m1, rfl⟩ : ∃ q, m1 = q + 1 := ⟨m1 - 1, by omega⟩
    obtain ⟨m2, rfl⟩ : ∃ q, m2 = q + 1 := ⟨m2 - 1, by omega⟩
    have hst : 2 ≤ T b 1 ∧ T b 1 ≤ 7 := I.2.1.2.1
    have m4 : Tm 222 4 = T b 1 := (wb_rd_sc R hst.1).2.1
    unfold w33_2 w119_2
    rw [wb_r2 (a := l) (b := T b 1) ⟨by omega, by omega⟩ ⟨by omega, by omega⟩, Option.bind_some, wb_ld (by decide), Option.bind_some, m4, wb_r2 (a := l) (b := T b 1) ⟨by omega, by omega⟩ ⟨by omega, by omega⟩, Option.bind_some]
    by_cases h3 : l < T b 1
    · obtain ⟨⟨r, e1, e2, e3⟩, Tm1, e4, e5, e6⟩ := wb_act_c I R ⟨hl, h3⟩ hs
      have J := wb_act_iv (sh := sh) I R ⟨hl, h3⟩
      have S := wb_act_sm (T := T) (b := b) (w := l) (sh := sh)
      have F := wb_act_fc (sh := sh) I R ⟨hl, h3⟩
      obtain ⟨T2, Tm2, g1, g2, g3, g4, g5, g6, g7⟩ := ih (l + 1) (N + 1) _ Tm1 J e5 (by rw [e6 221 (by decide)]; exact hs) (by omega) (by rw [S.1]; omega) (by omega) m1 m2 (by omega) (by omega)
      refine ⟨T2, Tm2, ?_, ?_, wb_iv_le g3 (by omega), g4, wb_fc.tr F g5, wb_fm.tr e6 g6, wb_sm1.tr S g7⟩
      · rw [if_pos h3, wb_r2 ⟨by omega, by omega⟩ (by decide), Option.bind_some, if_pos (by omega), e1, Option.bind_some, wb_r2 e2 (by decide), Option.bind_some]
        rcases e3 with ⟨q1, q2⟩ | ⟨q1, q2⟩
        · rw [if_pos q1, q2]
          exact g1
        · rw [if_neg q1, q2, Option.bind_some]
          exact g1
      · rw [if_pos h3, e4, Option.bind_some]
        exact g2
    · rw [if_neg h3, if_neg h3]
      exact ⟨T, Tm, rfl, rfl, wb_iv_le I (by omega), R, wb_fc.rf, wb_fm.rf, wb_sm1.rf⟩
/-- a minute -/
theorem wb_iv_min {T : sw_T} {b : Nat} {N v : Int} (I : wb_iv T b N) (hv : 0 ≤ v ∧ v ≤ N) : wb_iv (sw_up T b 0 v) b N := by
  obtain ⟨i1, i2, i7, i8, i9, i10, i11, i12⟩ := I
  have h : ∀ a, a ≠ b → sw_up T b 0 v a = T a := fun a ha => sw_up_ne ha
  have e : ∀ i, sw_up T b 0 v b i = if i = 0 then v else T b i := fun i => by rw [sw_up_eq]; rfl
  have hp : ∀ w j, wb_pi (sw_up T b 0 v) b w j = wb_pi T b w j := fun w j => wb_pi_ne (by omega)
  have hd : wb_hd (sw_up T b 0 v) b = wb_hd T b := wb_hd_ne (by omega)
  refine ⟨by rw [h (b + 1) (by omega)]; exact i1, ⟨by rw [e]; exact hv, by rw [e]; exact i2.2.1, by rw [e]; exact i2.2.2.1, by rw [e]; exact i2.2.2.2.1, by rw [h (b + 20) (by omega)]; exact i2.2.2.2.2⟩, ?_, ?_, ?_, ?_, ?_, ?_⟩
  · intro w hw
    have := i7 w hw
    unfold wb_se at this ⊢
    rw [h (b + 2) (by omega), h (b + 3) (by omega), h (b + 4) (by omega), h (b + 5) (by omega), h (b + 6) (by omega), h (b + 7) (by omega), h (b + 8) (by omega), h (b + 9) (by omega), h (b + 11) (by omega), h (b + 20) (by omega), h (b + 22) (by omega), h (b + 23) (by omega)]
    exact this
  · intro w hw
    rw [e, if_neg (by decide)] at hw
    have := i8 w hw
    unfold wb_cl at this ⊢
    rw [h (b + 3) (by omega), h (b + 4) (by omega), h (b + 5) (by omega), h (b + 6) (by omega), h (b + 7) (by omega), h (b + 8) (by omega), h (b + 9) (by omega), h (b + 11) (by omega)]
    exact this
  · intro w j hw hj
    rw [h (b + 11) (by omega)] at hj
    rw [hp, h (b + 20) (by omega), h (b + 22) (by omega), h (b + 23) (by omega)]
    exact i9 w j hw hj
  · intro w i j hw hj
    rw [h (b + 11) (by omega)] at hj
    rw [hp, hp]
    exact i10 w i j hw hj
  · intro x hx
    rw [h (b + 20) (by omega)] at hx
    rw [h (b + 21) (by omega), h (b + 22) (by omega), h (b + 23) (by omega)]
    exact i11 x hx
  · rw [e, if_neg (by decide), h (b + 6) (by omega), h (b + 7) (by omega), h (b + 11) (by omega), h (b + 20) (by omega), h (b + 22) (by omega), hd]
    exact i12
theorem wb_minute {b : Nat} {sh N : Int} {T Tm : sw_T} (I : wb_iv T b N) (R : wb_rp T b (Tm 222)) (hs : (sh = 1 ∧ Tm 221 9 = 0) ∨ (sh = 0 ∧ Tm 221 9 = 1)) : ∃ T1 Tm1, w33 b T sh = some T1 ∧ w119 Tm = some Tm1 ∧ wb_iv T1 b (N + 8) ∧ wb_rp T1 b (Tm1 222) ∧ wb_fc b T T1 ∧ wb_fm Tm Tm1 ∧ (T1 b 1 = T b 1 ∧ T1 (b + 1) = T (b + 1) ∧ T1 b 0 = T b 0 + 1) := by
  have hst : 2 ≤ T b 1 ∧ T b 1 ≤ 7 := I.2.1.2.1
  have hm0 := I.2.1.1
  obtain ⟨T1, Tm1, e1, e2, e3, e4, e5, e6, e7⟩ := wb_acts 7 0 N T Tm I R hs (by decide) (by omega) (by decide) sw_N sw_N (by decide) (by decide)
  have m3 : Tm1 222 3 = T1 b 0 := (wb_rd_sc e4 (by rw [e7.1]; exact hst.1)).1
  have h0 : T1 b 0 = T b 0 := e7.2.2
  refine ⟨sw_up T1 b 0 (T1 b 0 + 1), sw_up Tm1 222 3 (T1 b 0 + 1), ?_, ?_, wb_iv_min (wb_iv_le e3 (by omega)) (by omega), by rw [wb_m]; exact wb_up_min e4, e5.u0, e6.up, ?_, ?_, ?_⟩
  · unfold w33
    rw [e1, Option.bind_some, wb_pf, Option.bind_some]
  · unfold w119
    rw [e2, Option.bind_some, wb_ld (by decide), Option.bind_some, wb_st (by decide), Option.bind_some, m3]
  · rw [wb_rdu, if_pos rfl, if_neg (by decide)]; exact e7.1
  · rw [sw_up_ne (by omega)]; exact e7.2.1
  · rw [wb_rdu, if_pos rfl, if_pos rfl, h0]
