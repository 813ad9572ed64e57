/-! ===== the digest's second half ===== -/
theorem wd_tr {T Tm0 X T' C : sw_T} {N h : Int} (w : wd T Tm0 N h X) (t : wb_tri T X T' C) : wd T' Tm0 N h C := by
  obtain ⟨w1, w2, w3, w4⟩ := w
  exact ⟨wb_R_trial w1 t, by rw [t.2.2.2, w2], by rw [t.2.2.2, w3], fun a ha => by rw [t.2.1 a (by omega) (by omega) (by omega), w4 a ha]⟩
theorem wd_5 {T Tm0 X : sw_T} {N h : Int} (w : wd T Tm0 N h X) : ∃ v T1 C C1, w78 T = some (v, T1) ∧ w156 X 0 0 = some (v, C) ∧ wb_rg v ∧ w166 C v = some C1 ∧ wd T1 Tm0 N (31 * h + v) C1 ∧ (∀ a, a < 49 ∨ 73 ≤ a → T1 a = T a) := by
  obtain ⟨v, Y, T1, C, e1, e2, e3, e4, t⟩ := wb_done0 (sh := 1) (al := 0) w.1 (.inl ⟨rfl, rfl⟩)
  obtain ⟨C1, e5, w5⟩ := wd_add (wd_tr w t) v
  refine ⟨v, T1, C, C1, ?_, e3, e4, e5, w5, t.1⟩
  unfold w78
  rw [e1, Option.bind_some, e2, Option.bind_some]
theorem wd_5a {T Tm0 X : sw_T} {N h : Int} (w : wd T Tm0 N h X) : ∃ v T1 C C1, w79 T = some (v, T1) ∧ w156 X 1 0 = some (v, C) ∧ wb_rg v ∧ w166 C v = some C1 ∧ wd T1 Tm0 N (31 * h + v) C1 ∧ (∀ a, a < 49 ∨ 73 ≤ a → T1 a = T a) := by
  obtain ⟨v, Y, T1, C, e1, e2, e3, e4, t⟩ := wb_done0 (sh := 0) (al := 1) w.1 (.inr ⟨rfl, rfl⟩)
  obtain ⟨C1, e5, w5⟩ := wd_add (wd_tr w t) v
  refine ⟨v, T1, C, C1, ?_, e3, e4, e5, w5, t.1⟩
  unfold w79
  rw [e1, Option.bind_some, e2, Option.bind_some]
theorem wd_5w {T Tm0 X : sw_T} {N h p : Int} (w : wd T Tm0 N h X) (hp : 1 ≤ p ∧ p ≤ 9) : ∃ v T1 C C1, w80 T p = some (.inl (v, T1)) ∧ w156 X 0 p = some (v, C) ∧ wb_rg v ∧ w166 C v = some C1 ∧ wd T1 Tm0 N (31 * h + v) C1 ∧ (∀ a, a < 49 ∨ 73 ≤ a → T1 a = T a) := by
  obtain ⟨v, Y, r, T1, C, e1, e2, e3, e4, e5, t⟩ := wb_done1 w.1 hp
  obtain ⟨C1, e6, w6⟩ := wd_add (wd_tr w t) v
  exact ⟨v, T1, C, C1, wb_w80y hp e1 e2 e3, e4, e5, e6, w6, t.1⟩
theorem wd_6 {Tm0 : sw_T} {N : Int} (hN : N ≤ 90000000) : ∀ (k : Nat) (l h : Int) (T X : sw_T), 0 ≤ l → 4 - l = k → wd T Tm0 N h X → ∀ m1 m2, k < m1 → k < m2 → ∃ h' T' X', w84_122 m1 T h l = some (T', h') ∧ w168_165 m2 X l = some X' ∧ wd T' Tm0 N h' X' ∧ (∀ a, a < 49 ∨ 73 ≤ a → T' a = T a) := by
  intro k
  induction k with
  | zero =>
    intro l h T X hl hk w m1 m2 h1 h2
    obtain ⟨m1, rfl⟩ : ∃ q, m1 = q + 1 := ⟨m1 - 1, by omega⟩
    obtain ⟨m2, rfl⟩ : ∃ q, m2 = q + 1 := ⟨m2 - 1, by omega⟩
    refine ⟨h, T, X, ?_, ?_, w, fun _ _ => rfl⟩
    · rw [w84_122, wb_r2 ⟨by omega, by omega⟩ (by decide), Option.bind_some, if_neg (by omega)]
    · rw [w168_165, wb_r2 ⟨by omega, by omega⟩ (by decide), Option.bind_some, if_neg (by omega)]
  | succ k ih =>
    intro l h T X hl hk w m1 m2 h1 h2
    obtain ⟨m1, rfl⟩ : ∃ q, m1 = q + 1 := ⟨m1 - 1, by omega⟩
    obtain ⟨m2, rfl⟩ : ∃ q, m2 = q + 1 := ⟨m2 - 1, by omega⟩
    obtain ⟨v, T1, C, e1, e2, e3, t⟩ := wb_would w.1 hN (p := 10) (q := l) (by decide) ⟨hl, by omega⟩
    obtain ⟨C1, e4, w4⟩ := wd_add (wd_tr w t) v
    obtain ⟨h', T', X', g1, g2, g3, g4⟩ := ih (l + 1) (31 * h + v) T1 C1 (by omega) (by omega) w4 m1 m2 (by omega) (by omega)
    refine ⟨h', T', X', ?_, ?_, g3, fun a ha => by rw [g4 a ha, t.1 a ha]⟩
    · rw [w84_122, wb_r2 ⟨by omega, by omega⟩ (by decide), Option.bind_some, if_pos (by omega), e1, Option.bind_some, wb_eli, wb_r1 e3, Option.bind_some]
      exact g1
    · rw [w168_165, wb_r2 ⟨by omega, by omega⟩ (by decide), Option.bind_some, if_pos (by omega), e2, Option.bind_some, wb_r1 e3, Option.bind_some]
      show ((w166 C v).bind fun r68 => w168_165 m2 r68 (l + 1)) = _
      rw [e4, Option.bind_some]
      exact g2
theorem wd_7 {T Tm0 X : sw_T} {N h : Int} (w : wd T Tm0 N h X) : ∃ h' X', w87_18 T sw_N h 0 = some h' ∧ w168_238 sw_N X 0 = some X' ∧ wd T Tm0 N h' X' := by
  have c2 := w.1.2.2.2.1.2.1
  refine wd_loop (f := w87_18 T) (g := w168_238) (n := T 219 1) (fun m1 m2 h X l w hl hn => ?_) (fun m1 m2 h X w => ⟨?_, ?_⟩) (T 219 1).toNat 0 h X (by decide) (by omega) w sw_N sw_N (by unfold sw_N; omega) (by unfold sw_N; omega)
  · obtain ⟨c1, -, c3⟩ := w.1.2.2.2.1
    obtain ⟨q1, q2, q3⟩ := c3 l ⟨hl, hn⟩
    obtain ⟨t, tx⟩ := wt_tx_of w.1
    have e7 : w7 T l = some (T 220 l) := by
      rw [wt_w7 t ⟨hl, by omega⟩]
      congr 1
      exact if_pos hn
    obtain ⟨X', e, w'⟩ := wd_add w (T 220 l)
    refine ⟨31 * h + T 220 l, X', ?_, ?_, w'⟩
    · rw [w87_18, wb_r2 ⟨by omega, by omega⟩ ⟨by omega, by omega⟩, Option.bind_some, if_pos hn, e7, Option.bind_some, wb_r1 ⟨by omega, by omega⟩, Option.bind_some]
    · rw [w168_238, ← c1, wb_r2 ⟨by omega, by omega⟩ ⟨by omega, by omega⟩, Option.bind_some, if_pos hn, wb_ld ⟨hl, by omega⟩, Option.bind_some, ← q1, wb_r1 ⟨by omega, by omega⟩, Option.bind_some, e, Option.bind_some]
  · rw [w87_18, wb_r2 ⟨by omega, by omega⟩ ⟨by omega, by omega⟩, Option.bind_some, if_neg (by omega)]
  · have c1 := w.1.2.2.2.1.1
    rw [w168_238, ← c1, wb_r2 ⟨by omega, by omega⟩ ⟨by omega, by omega⟩, Option.bind_some, if_neg (by omega)]
theorem wd_8 {T Tm0 X : sw_T} {N h b : Int} (w : wd T Tm0 N h X) (hb : b = 0 ∨ b = 1) : ∃ h' X1 X2 X3, w87 T (31 * h + b) = some h' ∧ w166 X b = some X1 ∧ w166 X1 (X1 221 8) = some X2 ∧ wb_rg (X1 221 8) ∧ w168_238 sw_N X2 0 = some X3 ∧ wd T Tm0 N h' X3 := by
  have c2 := w.1.2.2.2.1.2.1
  obtain ⟨X1, e1, w1⟩ := wd_add w b
  have c1 := w1.1.2.2.2.1.1
  obtain ⟨X2, e2, w2⟩ := wd_add w1 (X1 221 8)
  rw [← c1] at w2
  obtain ⟨h', X3, g1, g2, w3⟩ := wd_7 w2
  refine ⟨h', X1, X2, X3, ?_, e1, e2, ⟨by omega, by omega⟩, g2, w3⟩
  unfold w87
  rw [wb_r1 ⟨by omega, by omega⟩, Option.bind_some, g1, Option.bind_some]
theorem wf_nd {x : UInt64} (h : FP.Core.val64 x ≠ .nan) : sw_nd x = some () := by
  refine if_pos ?_
  have := wf_d_cmp (o := .l) h h
  rw [if_neg (by omega), if_pos rfl] at this
  exact Int32.toInt.inj this
theorem wf_nf {x : UInt32} (h : FP.Core.val32 x ≠ .nan) : sw_nf x = some () := by
  refine if_pos ?_
  have := wf_f_cmp (o := .l) h h
  rw [if_neg (by omega), if_pos rfl] at this
  exact Int32.toInt.inj this
theorem wb_op_digest {T Tm : sw_T} {N : Int} (h : wb_R T Tm N) (hN : N ≤ 90000000) : ∃ v T1 Tm1, w84 T = some (v, T1) ∧ w168 Tm = some (v, Tm1) ∧ (∀ a, 221 ≤ a ∧ a < 228 → T1 a = T a) ∧ (∀ a, a < 221 ∨ 228 ≤ a → Tm1 a = Tm a) ∧ wb_R T1 Tm1 N := by
  have w0 : wd T (sw_up (sw_up Tm 221 0 0) 221 14 3319) N 3319 (sw_up (sw_up Tm 221 0 0) 221 14 3319) := ⟨wb_R_k (wb_R_k h (by decide)) (by decide), by rw [wb_rdu, if_pos rfl, if_pos rfl], rfl, fun _ _ => rfl⟩
  obtain ⟨h1, X1, a1, b1, w1⟩ := wd_1 (by omega) w0
  obtain ⟨h2, X2, a2, b2, w2⟩ := wd_2 w1
  obtain ⟨h3, X3, a3, b3, w3⟩ := wd_3 (by omega) w2
  obtain ⟨h4, X4, a4, b4, w4⟩ := wd_4 w3
  obtain ⟨v5, T5, C5, X5, a5, b5, r5, d5, w5, f5⟩ := wd_5 w4
  obtain ⟨v6, T6, C6, X6, a6, b6, r6, d6, w6, f6⟩ := wd_5a w5
  obtain ⟨v7, T7, C7, X7, a7, b7, r7, d7, w7', f7⟩ := wd_5w (p := 1) w6 (by decide)
  obtain ⟨v8, T8, C8, X8, a8, b8, r8, d8, w8', f8⟩ := wd_5w (p := 9) w7' (by decide)
  obtain ⟨h9, T9, X9, a9, b9, w9', f9⟩ := wd_6 hN 4 0 _ T8 X8 (by decide) (by decide) w8' sw_N sw_N (by decide) (by decide)
  obtain ⟨x, p1, p2, pn, z, pz, pb⟩ := wb_share w9'.1
  obtain ⟨X10, b10, w10'⟩ := wd_add w9' z
  obtain ⟨y, q1, q2, qn, u, qz, qb, qr⟩ := wb_even w10'.1
  obtain ⟨X11, b11, w11'⟩ := wd_add w10' u
  have hfl := w11'.1.2.1
  have hs0 : T9 0 5 = 0 ∨ T9 0 5 = 1 := by
    rcases hfl.2 with g | ⟨g, -⟩
    · exact .inl g
    · exact .inr g
  obtain ⟨h12, X12, X13, X14, a12, b12, b13, r13, b14, w14⟩ := wd_8 w11' hs0
  refine ⟨h12, T9, X14, ?_, ?_, fun a ha => ?_, fun a ha => ?_, w14.1⟩
  · unfold w84
    rw [a1, Option.bind_some, a2, Option.bind_some, a3, Option.bind_some, a4, Option.bind_some, a5, Option.bind_some, wb_r1 r5, Option.bind_some, a6, Option.bind_some, wb_r1 r6, Option.bind_some, a7, Option.bind_some, wb_eli, wb_r1 r7, Option.bind_some, a8, Option.bind_some, wb_eli, wb_r1 r8, Option.bind_some, a9, Option.bind_some, p1, Option.bind_some, pz, Option.bind_some, q1, Option.bind_some, qz, Option.bind_some, wb_r1 qr, Option.bind_some]
    show ((sw_r1 (T9 0 5)).bind fun _u => if (T9 0 5) = 0 then (sw_r1 0).bind fun _u => (w87 T9 ((31 * ((31 * ((31 * h9) + z)) + u)) + 0)).bind fun r71 => some ((r71, T9)) else (sw_r1 1).bind fun _u => (w87 T9 ((31 * ((31 * ((31 * h9) + z)) + u)) + 1)).bind fun r74 => some ((r74, T9))) = some (h12, T9)
    rw [wb_r1 ⟨by omega, by omega⟩, Option.bind_some]
    rcases hs0 with g | g
    · rw [g] at a12
      rw [if_pos g, wb_r1 (by decide), Option.bind_some, a12, Option.bind_some]
    · rw [g] at a12
      rw [if_neg (by omega), wb_r1 (by decide), Option.bind_some, a12, Option.bind_some]
  · unfold w168
    rw [wb_pf, Option.bind_some, wb_pf, Option.bind_some, b1, Option.bind_some, b2, Option.bind_some, b3, Option.bind_some, b4, Option.bind_some, b5, Option.bind_some, wb_r1 r5, Option.bind_some]
    show ((w166 C5 v5).bind fun r46 => _) = _
    rw [d5, Option.bind_some, b6, Option.bind_some, wb_r1 r6, Option.bind_some]
    show ((w166 C6 v6).bind fun r51 => _) = _
    rw [d6, Option.bind_some, b7, Option.bind_some, wb_r1 r7, Option.bind_some]
    show ((w166 C7 v7).bind fun r56 => _) = _
    rw [d7, Option.bind_some, b8, Option.bind_some, wb_r1 r8, Option.bind_some]
    show ((w166 C8 v8).bind fun r61 => _) = _
    rw [d8, Option.bind_some, b9, Option.bind_some, p2, Option.bind_some, wf_nd pn, Option.bind_some, pb, b10, Option.bind_some, q2, Option.bind_some, wf_nf qn, Option.bind_some, qb, wb_r1 qr, Option.bind_some, b11, Option.bind_some, ← hfl.1, wb_r1 ⟨by omega, by omega⟩, Option.bind_some]
    rcases hs0 with g | g
    · rw [g] at b12
      rw [if_pos g, b12, Option.bind_some, wb_r1 r13, Option.bind_some, b13, Option.bind_some, b14, Option.bind_some, w14.2.1]
    · rw [g] at b12
      rw [if_neg (by omega), b12, Option.bind_some, wb_r1 r13, Option.bind_some, b13, Option.bind_some, b14, Option.bind_some, w14.2.1]
  · rw [f9 a (by omega), f8 a (by omega), f7 a (by omega), f6 a (by omega), f5 a (by omega)]
  · rw [w14.2.2.2 a ha, sw_up_ne (by omega), sw_up_ne (by omega)]
