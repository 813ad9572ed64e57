/-! ===== the digest ===== -/
/-- the reference's hash, and that nothing else of it has changed -/
def wd (T Tm0 : sw_T) (N h : Int) (X : sw_T) : Prop := wb_R T X N ∧ X 221 14 = h ∧ X 221 0 = Tm0 221 0 ∧ (∀ a, a < 221 ∨ 228 ≤ a → X a = Tm0 a)
theorem wd_add {T Tm0 X : sw_T} {N h : Int} (w : wd T Tm0 N h X) (v : Int) : ∃ X', w166 X v = some X' ∧ wd T Tm0 N (31 * h + v) X' := by
  obtain ⟨w1, w2, w3, w4⟩ := w
  refine ⟨sw_up X 221 14 (31 * h + v), ?_, wb_R_k w1 (by decide), ?_, ?_, fun a ha => ?_⟩
  · unfold w166
    rw [w2, wb_pf, Option.bind_some]
  · rw [wb_rdu, if_pos rfl, if_pos rfl]
  · rw [wb_rdu, if_pos rfl, if_neg (by decide), w3]
  · rw [sw_up_ne (by omega), w4 a ha]
theorem wd_loop {T Tm0 : sw_T} {N n : Int} {f : Nat → Int → Int → Option Int} {g : Nat → sw_T → Int → Option sw_T} (hs : ∀ (m1 m2 : Nat) (h : Int) (X : sw_T) (l : Int), wd T Tm0 N h X → 0 ≤ l → l < n → ∃ h' X', f (m1 + 1) h l = f m1 h' (l + 1) ∧ g (m2 + 1) X l = g m2 X' (l + 1) ∧ wd T Tm0 N h' X') (he : ∀ (m1 m2 : Nat) (h : Int) (X : sw_T), wd T Tm0 N h X → f (m1 + 1) h n = some h ∧ g (m2 + 1) X n = some X) : ∀ (k : Nat) (l h : Int) (X : sw_T), 0 ≤ l → n - l = k → wd T Tm0 N h X → ∀ m1 m2, k < m1 → k < m2 → ∃ h' X', f m1 h l = some h' ∧ g m2 X l = some X' ∧ wd T Tm0 N h' X' := by
  intro k
  induction k with
  | zero =>
    intro l h X hl hk w m1 m2 h1 h2
    obtain ⟨m1, rfl⟩ : ∃ q, m1 = q + 1 := ⟨m1 - 1, by omega⟩
    obtain ⟨m2, rfl⟩ : ∃ q, m2 = q + 1 := ⟨m2 - 1, by omega⟩
    obtain rfl : l = n := by omega
    obtain ⟨e1, e2⟩ := he m1 m2 h X w
    exact ⟨h, X, e1, e2, w⟩
  | succ k ih =>
    intro l h X hl hk w m1 m2 h1 h2
    obtain ⟨m1, rfl⟩ : ∃ q, m1 = q + 1 := ⟨m1 - 1, by omega⟩
    obtain ⟨m2, rfl⟩ : ∃ q, m2 = q + 1 := ⟨m2 - 1, by omega⟩
    obtain ⟨h', X', e1, e2, w'⟩ := hs m1 m2 h X l w hl (by omega)
    obtain ⟨h2', X2, g1, g2, w2⟩ := ih (l + 1) h' X' (by omega) (by omega) w' m1 m2 (by omega) (by omega)
    exact ⟨h2', X2, e1.trans g1, e2.trans g2, w2⟩
theorem wd_1 {T Tm0 X : sw_T} {N h : Int} (hN : N ≤ 100000000) (w : wd T Tm0 N h X) : ∃ h' X', w84_6 T sw_N h 0 = some h' ∧ w168_14 sw_N X 0 = some X' ∧ wd T Tm0 N h' X' := by
  refine wd_loop (f := w84_6 T) (g := w168_14) (n := 12) (fun m1 m2 h X l w hl hn => ?_) (fun m1 m2 h X w => ⟨?_, ?_⟩) 12 0 h X (by decide) (by decide) w sw_N sw_N (by decide) (by decide)
  · obtain ⟨v, g1, g2, g3⟩ := wb_cnt_all w.1 hN (q := l) ⟨hl, by omega⟩
    obtain ⟨X', e, w'⟩ := wd_add w v
    refine ⟨31 * h + v, X', ?_, ?_, w'⟩
    · rw [w84_6, wb_r2 ⟨by omega, by omega⟩ (by decide), Option.bind_some, if_pos hn, g1, Option.bind_some, wb_eli, wb_r1 g3, Option.bind_some]
    · rw [w168_14, wb_r2 ⟨by omega, by omega⟩ (by decide), Option.bind_some, if_pos hn, g2, Option.bind_some, wb_r1 g3, Option.bind_some, e, Option.bind_some]
  · rw [w84_6, wb_r2 (by decide) (by decide), Option.bind_some, if_neg (by decide)]
  · rw [w168_14, wb_r2 (by decide) (by decide), Option.bind_some, if_neg (by decide)]
theorem wd_2 {T Tm0 X : sw_T} {N h : Int} (w : wd T Tm0 N h X) : ∃ h' X', w84_33 T sw_N h 0 = some h' ∧ w168_38 sw_N X 0 = some X' ∧ wd T Tm0 N h' X' := by
  refine wd_loop (f := w84_33 T) (g := w168_38) (n := 3) (fun m1 m2 h X l w hl hn => ?_) (fun m1 m2 h X w => ⟨?_, ?_⟩) 3 0 h X (by decide) (by decide) w sw_N sw_N (by decide) (by decide)
  · obtain ⟨g1, g2, g3⟩ := wb_stt w.1 ⟨hl, hn⟩
    obtain ⟨X', e, w'⟩ := wd_add w (T 2 l)
    refine ⟨31 * h + T 2 l, X', ?_, ?_, w'⟩
    · rw [w84_33, wb_r2 ⟨by omega, by omega⟩ (by decide), Option.bind_some, if_pos hn, g1, Option.bind_some, wb_eli, wb_r1 g3, Option.bind_some]
    · rw [w168_38, wb_r2 ⟨by omega, by omega⟩ (by decide), Option.bind_some, if_pos hn, g2, Option.bind_some, wb_r1 g3, Option.bind_some, e, Option.bind_some]
  · rw [w84_33, wb_r2 (by decide) (by decide), Option.bind_some, if_neg (by decide)]
  · rw [w168_38, wb_r2 (by decide) (by decide), Option.bind_some, if_neg (by decide)]
theorem wd_3a {T Tm0 X : sw_T} {N h p : Int} (hN : N ≤ 100000000) (hw : 0 ≤ p ∧ p < T 1 1) (w : wd T Tm0 N h X) : ∃ h' X', w85_20 T p sw_N h 0 = some h' ∧ w167_2 p sw_N X 0 = some X' ∧ wd T Tm0 N h' X' := by
  refine wd_loop (f := w85_20 T p) (g := w167_2 p) (n := 10) (fun m1 m2 h X l w hl hn => ?_) (fun m1 m2 h X w => ⟨?_, ?_⟩) 10 0 h X (by decide) (by decide) w sw_N sw_N (by decide) (by decide)
  · have h1 : 2 ≤ T 1 1 ∧ T 1 1 ≤ 7 := w.1.1.1.1.2.1.2.1
    obtain ⟨v, g1, g2, g3⟩ := wb_tells w.1.1.1.1 w.1.1.2 hw (q := l) ⟨hl, by omega⟩ hN
    obtain ⟨X', e, w'⟩ := wd_add w v
    have g0 : w72 T p l = some (.inl v) := by
      unfold w72
      rw [wb_w90y h1 hw, Option.bind_some, wb_eli, wb_r1 ⟨by omega, by omega⟩, Option.bind_some, if_neg (by omega), wb_r2 ⟨by omega, by omega⟩ (by decide), Option.bind_some, if_pos (by omega), g1, Option.bind_some]
    refine ⟨31 * h + v, X', ?_, ?_, w'⟩
    · rw [w85_20, wb_r2 ⟨by omega, by omega⟩ (by decide), Option.bind_some, if_pos hn, g0, Option.bind_some, wb_eli, wb_r1 g3, Option.bind_some]
    · rw [w167_2, wb_r2 ⟨by omega, by omega⟩ (by decide), Option.bind_some, if_pos hn, g2, Option.bind_some, wb_r1 g3, Option.bind_some, e, Option.bind_some]
  · rw [w85_20, wb_r2 (by decide) (by decide), Option.bind_some, if_neg (by decide)]
  · rw [w167_2, wb_r2 (by decide) (by decide), Option.bind_some, if_neg (by decide)]
theorem wd_3b {T Tm0 X : sw_T} {N h p : Int} (hw : 0 ≤ p ∧ p < T 1 1) (w : wd T Tm0 N h X) : ∃ h' X', w85_66 T p (T (1 + 11) p) sw_N h 0 = some h' ∧ w167_27 p sw_N X 0 = some X' ∧ wd T Tm0 N h' X' := by
  have h1 : 2 ≤ T 1 1 ∧ T 1 1 ≤ 7 := w.1.1.1.1.2.1.2.1
  have hw7 : 0 ≤ p ∧ p < 7 := ⟨hw.1, by omega⟩
  have h16 := (w.1.1.1.1.2.2.1 p hw7).2.2.2.2.2.2.2
  have hc : 0 ≤ T (1 + 20) 0 ∧ T (1 + 20) 0 ≤ 120 := w.1.1.1.1.2.1.2.2.2.2
  refine wd_loop (f := w85_66 T p (T (1 + 11) p)) (g := w167_27 p) (n := T (1 + 11) p) (fun m1 m2 h X l w hl hn => ?_) (fun m1 m2 h X w => ⟨?_, ?_⟩) (T (1 + 11) p).toNat 0 h X (by decide) (by omega) w sw_N sw_N (by unfold sw_N; omega) (by unfold sw_N; omega)
  · have mh : X 222 (8 + 9 * p + 8) = T (1 + 11) p := wb_rd_hgt w.1.1.2 h1.2 hw
    have mp := wb_rd_pile w.1.1.2 h1.2 hw ⟨hl, hn⟩ h16.2
    have hs := (w.1.1.1.1.2.2.2.2.1 p l hw7 ⟨hl, hn⟩).1
    have e19 := wb_w19 (b := 1) (T := T) (w := p) (p := l) hw7 ⟨by omega, by omega⟩ h16
    rw [if_pos ⟨hl, hn⟩] at e19
    obtain ⟨X', e, w'⟩ := wd_add w (wb_pi T 1 p l)
    have g0 : w73 T p l = some (.inl (wb_pi T 1 p l)) := by
      unfold w73
      rw [wb_w90y h1 hw, Option.bind_some, wb_eli, wb_r1 ⟨by omega, by omega⟩, Option.bind_some, if_neg (by omega), e19, Option.bind_some]
    refine ⟨31 * h + wb_pi T 1 p l, X', ?_, ?_, w'⟩
    · rw [w85_66, wb_r2 ⟨by omega, by omega⟩ ⟨by omega, by omega⟩, Option.bind_some, if_pos hn, g0, Option.bind_some, wb_eli, wb_r1 ⟨by omega, by omega⟩, Option.bind_some]
    · rw [w167_27, wb_w98 hw7 (by decide), Option.bind_some, mh, wb_r2 ⟨by omega, by omega⟩ ⟨by omega, by omega⟩, Option.bind_some, if_pos hn, wb_w101 hw7 ⟨hl, by omega⟩, Option.bind_some, mp, wb_r1 ⟨by omega, by omega⟩, Option.bind_some, e, Option.bind_some]
  · rw [w85_66, wb_r2 ⟨by omega, by omega⟩ ⟨by omega, by omega⟩, Option.bind_some, if_neg (by omega)]
  · have mh : X 222 (8 + 9 * p + 8) = T (1 + 11) p := wb_rd_hgt w.1.1.2 h1.2 hw
    rw [w167_27, wb_w98 hw7 (by decide), Option.bind_some, mh, wb_r2 ⟨by omega, by omega⟩ ⟨by omega, by omega⟩, Option.bind_some, if_neg (by omega)]
theorem wd_3 {T Tm0 X : sw_T} {N h : Int} (hN : N ≤ 100000000) (w : wd T Tm0 N h X) : ∃ h' X', w85 T h = some h' ∧ w168_62 sw_N X 0 = some X' ∧ wd T Tm0 N h' X' := by
  have h1 : 2 ≤ T 1 1 ∧ T 1 1 ≤ 7 := w.1.1.1.1.2.1.2.1
  have key : ∃ h' X', w85_5 T sw_N h 0 = some h' ∧ w168_62 sw_N X 0 = some X' ∧ wd T Tm0 N h' X' := by
    refine wd_loop (f := w85_5 T) (g := w168_62) (n := T 1 1) (fun m1 m2 h X l w hl hn => ?_) (fun m1 m2 h X w => ⟨?_, ?_⟩) (T 1 1).toNat 0 h X (by decide) (by omega) w sw_N sw_N (by unfold sw_N; omega) (by unfold sw_N; omega)
    · have m4 : X 222 4 = T 1 1 := (wb_rd_sc w.1.1.2 h1.1).2.1
      obtain ⟨ha, Xa, a1, a2, wa⟩ := wd_3a hN ⟨hl, hn⟩ w
      obtain ⟨hb, Xb, b1, b2, wb⟩ := wd_3b ⟨hl, hn⟩ wa
      obtain ⟨v, c1, c2, c3⟩ := wb_chs wb.1 ⟨hl, hn⟩
      obtain ⟨Xc, e, wc⟩ := wd_add wb v
      refine ⟨31 * hb + v, Xc, ?_, ?_, wc⟩
      · rw [w85_5, wb_r2 ⟨by omega, by omega⟩ ⟨by omega, by omega⟩, Option.bind_some, if_pos hn, a1, Option.bind_some, wb_w18 ⟨hl, by omega⟩, Option.bind_some, b1, Option.bind_some, c1, Option.bind_some, wb_eli, wb_r1 c3, Option.bind_some]
      · have e167 : w167 X l = some Xc := by
          unfold w167
          rw [a2, Option.bind_some, b2, Option.bind_some, c2, Option.bind_some, wb_r1 c3, Option.bind_some, e, Option.bind_some]
        rw [w168_62, wb_ld (by decide), Option.bind_some, m4, wb_r2 ⟨by omega, by omega⟩ ⟨by omega, by omega⟩, Option.bind_some, if_pos hn, e167, Option.bind_some]
    · rw [w85_5, wb_r2 ⟨by omega, by omega⟩ ⟨by omega, by omega⟩, Option.bind_some, if_neg (by omega)]
    · have m4 : X 222 4 = T 1 1 := (wb_rd_sc w.1.1.2 h1.1).2.1
      rw [w168_62, wb_ld (by decide), Option.bind_some, m4, wb_r2 ⟨by omega, by omega⟩ ⟨by omega, by omega⟩, Option.bind_some, if_neg (by omega)]
  obtain ⟨h', X', e1, e2, w'⟩ := key
  refine ⟨h', X', ?_, e2, w'⟩
  unfold w85
  rw [e1, Option.bind_some]
theorem wd_4s {T Tm0 X : sw_T} {N h s q : Int} {m : Nat} (w : wd T Tm0 N h X) (hs : 0 ≤ s ∧ s < T 21 0) (hq : 0 ≤ q ∧ q < 3) : ∃ v X', w74 T s q = some (.inl v) ∧ wb_rg v ∧ w168_85 (m + 1) X (3 * s + q) = w168_85 m X' (3 * s + q + 1) ∧ wd T Tm0 N (31 * h + v) X' := by
  have h1 : 2 ≤ T 1 1 ∧ T 1 1 ≤ 7 := w.1.1.1.1.2.1.2.1
  have hc : 0 ≤ T 21 0 ∧ T 21 0 ≤ 120 := w.1.1.1.1.2.1.2.2.2.2
  have m5 : X 222 5 = T 21 0 := (wb_rd_sc w.1.1.2 h1.1).2.2.1
  obtain ⟨v, g1, g2, g3⟩ := wb_sh3 w.1.1.1.1 w.1.1.2 hs hq
  obtain ⟨X', e, w'⟩ := wd_add w v
  refine ⟨v, X', ?_, g3, ?_, w'⟩
  · unfold w74
    rw [wb_r1 ⟨by omega, by omega⟩, Option.bind_some, if_neg (by omega), wb_r2 ⟨by omega, by omega⟩ ⟨by omega, by omega⟩, Option.bind_some, if_pos hs.2, wb_r1 ⟨by omega, by omega⟩, Option.bind_some, if_neg (by omega), wb_r2 ⟨by omega, by omega⟩ (by decide), Option.bind_some, if_pos hq.2, g1, Option.bind_some]
  · rw [w168_85, wb_ld (by decide), Option.bind_some, m5, wb_r2 ⟨by omega, by omega⟩ ⟨by omega, by omega⟩, Option.bind_some, if_pos (by omega), wb_ld ⟨by omega, by omega⟩, Option.bind_some, show 183 + (3 * s + q) = 183 + 3 * s + q by omega, g2, wb_r1 g3, Option.bind_some, e, Option.bind_some]
theorem wd_4 {T Tm0 X : sw_T} {N h : Int} (w : wd T Tm0 N h X) : ∃ h' X', w86 T h = some h' ∧ w168_85 sw_N X 0 = some X' ∧ wd T Tm0 N h' X' := by
  have h1 : 2 ≤ T 1 1 ∧ T 1 1 ≤ 7 := w.1.1.1.1.2.1.2.1
  have hc : 0 ≤ T 21 0 ∧ T 21 0 ≤ 120 := w.1.1.1.1.2.1.2.2.2.2
  have key : ∃ h' X', w86_5 T sw_N h 0 = some h' ∧ (fun (m : Nat) (X : sw_T) (s : Int) => w168_85 (3 * m + 2) X (3 * s)) 1666 X 0 = some X' ∧ wd T Tm0 N h' X' := by
    refine wd_loop (f := w86_5 T) (g := fun m X s => w168_85 (3 * m + 2) X (3 * s)) (n := T 21 0) (fun m1 m2 h X l w hl hn => ?_) (fun m1 m2 h X w => ⟨?_, ?_⟩) (T 21 0).toNat 0 h X (by decide) (by omega) w sw_N 1666 (by unfold sw_N; omega) (by omega)
    · obtain ⟨v0, X0, a1, a2, a3, a4⟩ := wd_4s (m := 3 * m2 + 4) w ⟨hl, hn⟩ (q := 0) (by decide)
      obtain ⟨v1, X1, b1, b2, b3, b4⟩ := wd_4s (m := 3 * m2 + 3) a4 ⟨hl, hn⟩ (q := 1) (by decide)
      obtain ⟨v2, X2, c1, c2, c3, c4⟩ := wd_4s (m := 3 * m2 + 2) b4 ⟨hl, hn⟩ (q := 2) (by decide)
      refine ⟨31 * (31 * (31 * h + v0) + v1) + v2, X2, ?_, ?_, c4⟩
      · have e23 : w86_23 T l sw_N h 0 = some (31 * (31 * (31 * h + v0) + v1) + v2) := by
          rw [show sw_N = 4996 + 1 + 1 + 1 + 1 from rfl]
          rw [w86_23, wb_r2 (by decide) (by decide), Option.bind_some, if_pos (by decide), a1, Option.bind_some, wb_eli, wb_r1 a2, Option.bind_some, Int.zero_add]
          rw [w86_23, wb_r2 (by decide) (by decide), Option.bind_some, if_pos (by decide), b1, Option.bind_some, wb_eli, wb_r1 b2, Option.bind_some, show (1 : Int) + 1 = 2 from rfl]
          rw [w86_23, wb_r2 (by decide) (by decide), Option.bind_some, if_pos (by decide), c1, Option.bind_some, wb_eli, wb_r1 c2, Option.bind_some, show (2 : Int) + 1 = 3 from rfl]
          rw [w86_23, wb_r2 (by decide) (by decide), Option.bind_some, if_neg (by decide)]
        rw [w86_5, wb_r2 ⟨by omega, by omega⟩ ⟨by omega, by omega⟩, Option.bind_some, if_pos hn, e23, Option.bind_some]
      · show w168_85 (3 * (m2 + 1) + 2) X (3 * l) = w168_85 (3 * m2 + 2) X2 (3 * (l + 1))
        rw [Int.add_zero] at a3
        rw [show 3 * (m2 + 1) + 2 = 3 * m2 + 4 + 1 by omega, a3, show 3 * m2 + 4 = 3 * m2 + 3 + 1 by omega, b3, show 3 * l + 1 + 1 = 3 * l + 2 by omega, show 3 * m2 + 3 = 3 * m2 + 2 + 1 by omega, c3, show 3 * l + 2 + 1 = 3 * (l + 1) by omega]
    · rw [w86_5, wb_r2 ⟨by omega, by omega⟩ ⟨by omega, by omega⟩, Option.bind_some, if_neg (by omega)]
    · have m5 : X 222 5 = T 21 0 := (wb_rd_sc w.1.1.2 h1.1).2.2.1
      show w168_85 (3 * (m2 + 1) + 2) X (3 * T 21 0) = some X
      rw [show 3 * (m2 + 1) + 2 = 3 * m2 + 4 + 1 by omega, w168_85, wb_ld (by decide), Option.bind_some, m5, wb_r2 ⟨by omega, by omega⟩ ⟨by omega, by omega⟩, Option.bind_some, if_neg (by omega)]
  obtain ⟨h', X', e1, e2, w'⟩ := key
  refine ⟨h', X', ?_, e2, w'⟩
  unfold w86
  rw [e1, Option.bind_some]
