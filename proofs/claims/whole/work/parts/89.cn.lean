/-! ===== the text: all orders; the first error ===== -/
theorem wt_stop {X : sw_T} {m : Nat} (h : X 221 11 = 0) : w139_14 (m + 1) X = some X := by
  rw [w139_14, h, wb_r1 (by decide), Option.bind_some, if_pos rfl]
theorem wt_ill_end {T : sw_T} {L a : Int} (t : wt_cl T L) (h : wt_ill T L a) : w8 T = some a ∧ w9 T = some 0 := by
  obtain ⟨s, h1, h2, h3, h4, h5⟩ := h
  rcases h5 with rfl | ⟨g1, g2⟩
  · obtain ⟨e1, e2⟩ := wt_at_end t h1
    refine ⟨e1, ?_⟩
    rw [e2 h2, if_neg (by omega)]
  · exact wt_at_err t h1 h2 g1 g2
theorem wt_fin_end {T : sw_T} {L : Int} (t : wt_cl T L) (h : wt_fin T L L) : w8 T = some L ∧ w9 T = some 1 := by
  obtain ⟨s, h1, h2⟩ := h
  obtain ⟨e1, e2⟩ := wt_at_end t h1
  refine ⟨e1, ?_⟩
  rw [e2 ⟨by omega, by omega⟩, if_pos (by omega)]
theorem wt_loop {T Tm : sw_T} {L : Int} (t : wt_cl T L) (tx : wt_tx Tm (T 220) L) : ∀ (k : Nat) (a r : Int) (rd : Int → Int) (X : sw_T), wt_S Tm a 1 r rd X → 0 ≤ a ∧ a ≤ L → 0 ≤ r ∧ 3 * r ≤ a + 1 → wt_fin T L a → L - a ≤ k → ∀ m, k + 1 < m → ∃ X' a' w' r' rd', w139_14 m X = some X' ∧ wt_S Tm a' w' r' rd' X' ∧ (∀ i, i < 3 * r → rd' i = rd i) ∧ (0 ≤ a' ∧ a' ≤ L) ∧ ((w' = 1 ∧ (w8 T = some L ∧ a' = L ∧ w9 T = some 1) ∧ ∃ n : Nat, r' = r + n ∧ wt_tl (T 220) L rd' n a r) ∨ (w' = 0 ∧ w8 T = some a' ∧ w9 T = some 0)) := by
  have hL := t.2.1
  intro k
  induction k with
  | zero =>
    intro a r rd X h ha hr hf hk m hm
    obtain ⟨m, rfl⟩ : ∃ q, m = q + 1 := ⟨m - 1, by omega⟩
    obtain rfl : a = L := by omega
    obtain ⟨e1, e2⟩ := wt_fin_end t hf
    refine ⟨X, a, 1, r, rd, ?_, h, fun _ _ => rfl, ha, .inl ⟨rfl, ⟨e1, rfl, e2⟩, 0, by omega, rfl⟩⟩
    rw [w139_14, h.2.1, wb_r1 (by decide), Option.bind_some, if_neg (by decide), h.1, h.2.2.2.2.1 8 (by decide) (by decide) (by decide), tx.1, wb_r2 ⟨by omega, by omega⟩ ⟨by omega, by omega⟩, Option.bind_some, if_neg (by omega)]
  | succ k ih =>
    intro a r rd X h ha hr hf hk m hm
    obtain ⟨m, rfl⟩ : ∃ q, m = q + 1 := ⟨m - 1, by omega⟩
    by_cases haL : a < L
    · have hsg : wt_sg (T 220) L a = T 220 a := if_pos haL
      have hcb := t.2.2 a ⟨ha.1, haL⟩
      by_cases h59 : T 220 a = 59
      · obtain ⟨X1, e1, s1⟩ := wt_pw h (.inr rfl)
        obtain ⟨X2, e2, s2⟩ := wt_pa (v := X1 221 10 + 1) s1
        rw [s1.1] at s2
        have A0 : wt_at T 0 (a + 1) := by
          obtain ⟨s, g1, g2⟩ := hf
          refine wt_at_st t g1 ⟨by omega, by omega⟩ haL ?_ (by decide)
          rcases g2 with rfl | ⟨rfl, g3⟩
          · rw [h59]
            rfl
          · rw [h59]
            rfl
        obtain ⟨X3, a', w', r', rd', g1, g2, g3, g4, g5⟩ := wt_ord t tx s2 ⟨by omega, by omega⟩ ⟨hr.1, by omega⟩ A0
        have hgo : w139_14 (m + 1) X = w139_14 m X3 := by
          rw [w139_14, h.2.1, wb_r1 (by decide), Option.bind_some, if_neg (by decide), h.1, h.2.2.2.2.1 8 (by decide) (by decide) (by decide), tx.1, wb_r2 ⟨by omega, by omega⟩ ⟨by omega, by omega⟩, Option.bind_some, if_pos haL, wt_sign tx h ha, Option.bind_some, hsg, wb_r2 ⟨by omega, by omega⟩ (by decide), Option.bind_some, if_pos h59, e1, Option.bind_some, s1.2.1, wb_r1 (by decide), Option.bind_some, if_neg (by decide), e2, Option.bind_some, s2.2.1, wb_r1 (by decide), Option.bind_some, if_neg (by decide), g1, Option.bind_some]
        rw [hgo]
        rcases g5 with ⟨rfl, rfl, q1, q2, q3⟩ | ⟨rfl, q1⟩
        · obtain ⟨X4, a4, w4, r4, rd4, k1, k2, k3, k4, k5⟩ := ih a' (r + 1) rd' X3 g2 ⟨by omega, g4.2⟩ ⟨by omega, by omega⟩ q3 (by omega) m (by omega)
          refine ⟨X4, a4, w4, r4, rd4, k1, k2, fun i hi => by rw [k3 i (by omega), g3 i hi], k4, ?_⟩
          rcases k5 with ⟨j1, j2, n, j3, j4⟩ | j
          · refine .inl ⟨j1, j2, n + 1, by omega, haL, h59, a', ?_, j4⟩
            rw [k3 (3 * r) (by omega), k3 (3 * r + 1) (by omega), k3 (3 * r + 2) (by omega)]
            exact q2
          · exact .inr j
        · obtain ⟨m, rfl⟩ : ∃ q, m = q + 1 := ⟨m - 1, by omega⟩
          exact ⟨X3, a', 0, r', rd', wt_stop g2.2.1, g2, g3, ⟨by omega, g4.2⟩, .inr ⟨rfl, wt_ill_end t q1⟩⟩
      · obtain ⟨X1, e1, s1⟩ := wt_pw h (.inl rfl)
        obtain ⟨X2, e2, s2⟩ := wt_pa (v := X1 221 10 + 0) s1
        rw [s1.1, Int.add_zero] at s2
        obtain ⟨m, rfl⟩ : ∃ q, m = q + 1 := ⟨m - 1, by omega⟩
        have herr : w8 T = some a ∧ w9 T = some 0 := by
          obtain ⟨s, g1, g2⟩ := hf
          refine wt_at_err t g1 ⟨by omega, by omega⟩ haL ?_
          rcases g2 with rfl | ⟨rfl, g3⟩
          · exact if_neg h59
          · rw [hsg] at g3
            show (if 48 ≤ T 220 a ∧ T 220 a ≤ 57 then (8 : Int) else if T 220 a = 59 then 0 else -1) = -1
            rw [if_neg g3, if_neg h59]
        refine ⟨X2, a, 0, r, rd, ?_, s2, fun _ _ => rfl, ha, .inr ⟨rfl, herr⟩⟩
        rw [w139_14, h.2.1, wb_r1 (by decide), Option.bind_some, if_neg (by decide), h.1, h.2.2.2.2.1 8 (by decide) (by decide) (by decide), tx.1, wb_r2 ⟨by omega, by omega⟩ ⟨by omega, by omega⟩, Option.bind_some, if_pos haL, wt_sign tx h ha, Option.bind_some, hsg, wb_r2 ⟨by omega, by omega⟩ (by decide), Option.bind_some, if_neg h59, e1, Option.bind_some, s1.2.1, wb_r1 (by decide), Option.bind_some, if_pos rfl, e2, Option.bind_some, s2.2.1, wb_r1 (by decide), Option.bind_some, if_pos rfl, wt_stop s2.2.1]
    · exact ih a r rd X h ha hr hf (by omega) (m + 1) (by omega)
/-- both have read the text -/
theorem wt_read {T Tm : sw_T} {L : Int} (t : wt_cl T L) (tx : wt_tx Tm (T 220) L) : ∃ X a w r rd, w139 Tm = some X ∧ wt_S Tm a w r rd X ∧ (0 ≤ a ∧ a ≤ L) ∧ ((w = 1 ∧ (w8 T = some a ∧ w9 T = some 1) ∧ ∃ (n : Nat) (p' : Int), r = n + 1 ∧ wt_part (T 220) L 0 p' (rd 0) (rd 1) (rd 2) ∧ wt_tl (T 220) L rd n p' 1) ∨ (w = 0 ∧ w8 T = some a ∧ w9 T = some 0)) := by
  have hL := t.2.1
  have h0 : wt_S Tm (Tm 221 10) (Tm 221 11) (Tm 221 13) (Tm 227) Tm := ⟨rfl, rfl, rfl, rfl, fun _ _ _ _ => rfl, fun _ _ _ => rfl⟩
  obtain ⟨X1, e1, s1⟩ := wt_pa (v := 0) h0
  obtain ⟨X2, e2, s2⟩ := wt_pr (v := 0) s1
  obtain ⟨X3, a, w, r, rd, e3, s3, f3, b3, q3⟩ := wt_ord t tx s2 ⟨by decide, hL.1⟩ ⟨by decide, by decide⟩ wt_at_0
  have e139 : w139 Tm = (w139_14 sw_N X3).bind fun x => some x := by
    unfold w139
    rw [e1, Option.bind_some, e2, Option.bind_some, e3, Option.bind_some]
  rcases q3 with ⟨rfl, rfl, q1, q2, q4⟩ | ⟨rfl, q1⟩
  · obtain ⟨X4, a4, w4, r4, rd4, k1, k2, k3, k4, k5⟩ := wt_loop t tx 60 a (0 + 1) rd X3 s3 ⟨b3.1, b3.2⟩ ⟨by decide, by omega⟩ q4 (by omega) sw_N (by decide)
    refine ⟨X4, a4, w4, r4, rd4, by rw [e139, k1, Option.bind_some], k2, k4, ?_⟩
    rcases k5 with ⟨j1, ⟨j2, rfl, j5⟩, n, j3, j4⟩ | ⟨j1, j2⟩
    · refine .inl ⟨j1, ⟨j2, j5⟩, n, a, by omega, ?_, j4⟩
      rw [k3 0 (by decide), k3 1 (by decide), k3 2 (by decide)]
      exact q2
    · exact .inr ⟨j1, j2⟩
  · have hN : sw_N = 4999 + 1 := rfl
    refine ⟨X3, a, 0, r, rd, by rw [e139, hN, wt_stop s3.2.1, Option.bind_some], s3, b3, .inr ⟨rfl, wt_ill_end t q1⟩⟩
/-- a look whose class part is a number alone -/
def wb_rs1 (F : Option Int) (G : Option (Int × sw_T)) (T Tm : sw_T) (N : Int) : Prop := ∃ v Tm1, F = some v ∧ G = some (v, Tm1) ∧ wb_rg v ∧ (∀ a, a < 221 ∨ 228 ≤ a → Tm1 a = Tm a) ∧ wb_R T Tm1 N
theorem wt_R {T Tm X : sw_T} {N a w r : Int} {rd : Int → Int} (h : wb_R T Tm N) (s : wt_S Tm a w r rd X) : wb_R T X N := by
  obtain ⟨s1, s2, s3, s4, s5, s6⟩ := s
  refine wb_R_room h (Int.le_refl _) (fun _ _ => rfl) ⟨s6 224 (by decide) (by decide), s6 225 (by decide) (by decide), s6 226 (by decide) (by decide), s5 4 (by decide) (by decide) (by decide), s5 6 (by decide) (by decide) (by decide), s5 8 (by decide) (by decide) (by decide), s5 9 (by decide) (by decide) (by decide)⟩ h.1.1 ?_
  rw [s6 222 (by decide) (by decide)]
  exact h.1.2
theorem wt_tx_of {T Tm : sw_T} {N : Int} (h : wb_R T Tm N) : wt_cl T (T 219 1) ∧ wt_tx Tm (T 220) (T 219 1) := by
  obtain ⟨c1, c2, c3⟩ := h.2.2.2.1
  exact ⟨⟨rfl, c2, fun i hi => (c3 i hi).2⟩, c1.symm, c2, fun i hi => ⟨(c3 i hi).1.symm, (c3 i hi).2⟩⟩
theorem wb_op_first {T Tm : sw_T} {N : Int} (h : wb_R T Tm N) : wb_rs1 (w67 T) (w140 Tm) T Tm N := by
  have h0 := wb_R_k (k := 0) (v := 0) h (by decide)
  obtain ⟨t, tx⟩ := wt_tx_of h0
  have hL := t.2.1
  obtain ⟨X, a, w, r, rd, e1, s1, b1, q⟩ := wt_read t tx
  have e8 : w8 T = some a := by
    rcases q with ⟨-, ⟨q, -⟩, -⟩ | ⟨-, q, -⟩
    · exact q
    · exact q
  refine ⟨a, X, ?_, ?_, ⟨by omega, by omega⟩, fun b hb => ?_, wt_R h0 s1⟩
  · unfold w67
    rw [e8, Option.bind_some]
  · unfold w140
    rw [wb_pf, Option.bind_some, e1, Option.bind_some, s1.1]
  · rw [s1.2.2.2.2.2 b (by omega) (by omega), sw_up_ne (by omega)]
