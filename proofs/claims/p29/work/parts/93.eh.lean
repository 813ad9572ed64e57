/-! ===== what holds in every state ===== -/
theorem wq_if {T : sw_T} {N : Int} {M : Int → Int} (I : wq_r T 1 N) (R : wb_rp T 1 M) : ∃ v X, w81 T 7 3 = some (.inl (v, X)) ∧ (0 ≤ v ∧ v ≤ we_W T 1) ∧ ∀ a, a < 49 ∨ 73 ≤ a → X a = T a := by
  obtain ⟨X, e1, e2, e3⟩ := wb_copy (b := 49) (c := 1) I.1.1 (.inr (by decide))
  have iX := wq_r_eq I e3
  have rX : wb_rp X 49 (wq_TM M 222) := wb_rp_eq I.1.1 e3 R
  obtain ⟨X1, B, g1, g2, g3, g4, g5, g6, g7⟩ := wb_pass (c := 7) (by decide) iX.1.1 rX wq_TM_9
  obtain ⟨f1, f2, -⟩ := we_pass (c := 7) (by decide) iX.1.1 rX iX.2 wq_TM_9 g1
  rw [we_W_eq I.1.1 e3] at f2
  have h0 := wc_W_rg g3
  refine ⟨we_W X1 49, X1, ?_, ⟨h0.1, f2⟩, fun a ha => by rw [g5 a (by omega), e2 a (by omega)]⟩
  unfold w81
  rw [wb_r2 (by decide) (by decide), Option.bind_some, if_neg (by decide), wb_r2 (by decide) (by decide), Option.bind_some, if_neg (by decide), wb_r1 (by decide), Option.bind_some, if_neg (by decide), wb_r2 (by decide) (by decide), Option.bind_some, if_pos (by decide), e1, Option.bind_some, g1, Option.bind_some, Option.bind_some, if_neg (by decide), if_neg (by decide), if_neg (by decide), wc_w57 g3, Option.bind_some]
theorem wq_64 {T : sw_T} {a1 a2 a3 a5 a6 a7 a8 a9 w h12 l4 : Int} {hd : Int} (hh : hd = -1 ∨ 0 ≤ hd ∧ hd < 120) : ∀ m, 0 < m → w204_64 T a1 a2 a3 a5 a6 a7 a8 a9 w hd h12 m l4 = some (l4 + (if hd = -1 then 0 else 1)) := by
  intro m hm
  obtain ⟨m, rfl⟩ : ∃ q, m = q + 1 := ⟨m - 1, by omega⟩
  rw [w204_64, wb_r1 ⟨by omega, by omega⟩, Option.bind_some]
  by_cases h : hd = -1
  · rw [if_pos (by omega), if_pos h]
  · rw [if_neg (by omega), if_neg h]
theorem wq_150 {T : sw_T} {N w : Int} (I : wq_r T 1 N) (hw : 0 ≤ w ∧ w < T 1 1) {a1 a2 a3 a4 a5 a6 a7 a8 a9 : Int} : ∀ m, 0 < m → w204_150 T a1 a2 a3 a4 a5 a6 a7 a8 a9 w (T 4 w) (T 12 w) (wb_cho T 1 w) m = some (.inl ()) := by
  intro m hm
  obtain ⟨m, rfl⟩ : ∃ q, m = q + 1 := ⟨m - 1, by omega⟩
  have h1 : 2 ≤ T 1 1 ∧ T 1 1 ≤ 7 := I.1.1.2.1.2.1
  have hcc : 0 ≤ T 21 0 ∧ T 21 0 ≤ 120 := I.1.1.2.1.2.2.2.2
  have hw7 : 0 ≤ w ∧ w < 7 := ⟨hw.1, by omega⟩
  have h16 : 0 ≤ T 12 w ∧ T 12 w ≤ 16 := (I.1.1.2.2.1 w hw7).2.2.2.2.2.2.2
  have hha : T 4 w = -1 ∨ (0 ≤ T 4 w ∧ T 4 w < T 21 0 ∧ T 23 (T 4 w) = 1 ∧ T 24 (T 4 w) = w) := (I.1.1.2.2.1 w hw7).2.1
  have hE : T 4 w ≠ -1 → T 6 w = 0 := I.2.1 w hw7
  obtain ⟨-, ch⟩ := wq_ch I.1.1 hw
  have tail : ((sw_r2 (T 12 w) 16).bind fun _u => if 16 < T 12 w then (some (.inr ((0, T))) : Option ((Unit) ⊕ (Int × sw_T))) else (sw_r2 (wb_cho T 1 w) w).bind fun _u => if wb_cho T 1 w = w then some (.inr ((0, T))) else (sw_r1 (wb_cho T 1 w)).bind fun _u => if wb_cho T 1 w < 0 then some (.inl ()) else (w72 T (wb_cho T 1 w) 1).bind fun r76 => sw_el r76 (fun r77 => (sw_r1 r77).bind fun _u => if r77 = 0 then some (.inr ((0, T))) else some (.inl ())) (fun E78 => none)) = some (.inl ()) := by
    rw [wb_r2 ⟨by omega, by omega⟩ (by decide), Option.bind_some, if_neg (by omega)]
    rcases ch with c | ⟨c1, c2, c3⟩
    · rw [c, wb_r2 (by decide) ⟨by omega, by omega⟩, Option.bind_some, if_neg (by omega), wb_r1 (by decide), Option.bind_some, if_pos (by decide)]
    · have hc7 : 0 ≤ wb_cho T 1 w ∧ wb_cho T 1 w < 7 := ⟨c1.1, by omega⟩
      have hc16 : 0 ≤ T 12 (wb_cho T 1 w) ∧ T 12 (wb_cho T 1 w) ≤ 16 := (I.1.1.2.2.1 _ hc7).2.2.2.2.2.2.2
      rw [wb_r2 ⟨by omega, by omega⟩ ⟨by omega, by omega⟩, Option.bind_some, if_neg c3, wb_r1 ⟨by omega, by omega⟩, Option.bind_some, if_neg (by omega), wq_s1 I.1.1 c1, Option.bind_some, wb_eli, wb_r1 ⟨by omega, by omega⟩, Option.bind_some, if_neg (by omega)]
  unfold w204_150
  rw [wb_r1 (a := T 4 w) ⟨by omega, by omega⟩, Option.bind_some]
  rcases hha with hh | ⟨q1, q2, q3, q4⟩
  · rw [if_pos (by omega)]
    exact tail
  · rw [if_neg (by omega), wq_s4 I.1.1 hw, Option.bind_some, wb_eli, hE (by omega), wb_r2 (by decide) (by decide), Option.bind_some, if_neg (by decide), wq_h3 (t := 23) I.1.1 ⟨q1, q2⟩ (.inr (.inl ⟨rfl, rfl⟩)), Option.bind_some, wb_eli, q3, wb_r2 (by decide) (by decide), Option.bind_some, if_pos rfl, wq_h3 (t := 24) I.1.1 ⟨q1, q2⟩ (.inr (.inr ⟨rfl, rfl⟩)), Option.bind_some, wb_eli, q4, wb_r2 ⟨by omega, by omega⟩ ⟨by omega, by omega⟩, Option.bind_some, if_pos rfl]
    exact tail
theorem wq_223 {T : sw_T} {N w : Int} (I : wq_r T 1 N) (hw : 0 ≤ w ∧ w < T 1 1) {a1 a2 a3 a4 a5 a6 a7 a8 a9 : Int} : ∀ k l : Nat, (l : Int) + k = T 12 w → ∀ m, k < m → w204_223 T a1 a2 a3 a4 a5 a6 a7 a8 a9 w (T 12 w) m l = some (.inl ()) := by
  have h1 : 2 ≤ T 1 1 ∧ T 1 1 ≤ 7 := I.1.1.2.1.2.1
  have hcc : 0 ≤ T 21 0 ∧ T 21 0 ≤ 120 := I.1.1.2.1.2.2.2.2
  have hw7 : 0 ≤ w ∧ w < 7 := ⟨hw.1, by omega⟩
  have h16 : 0 ≤ T 12 w ∧ T 12 w ≤ 16 := (I.1.1.2.2.1 w hw7).2.2.2.2.2.2.2
  intro k
  induction k with
  | zero =>
    intro l hl m hm
    obtain ⟨m, rfl⟩ : ∃ q, m = q + 1 := ⟨m - 1, by omega⟩
    unfold w204_223
    rw [wb_r2 ⟨by omega, by omega⟩ ⟨by omega, by omega⟩, Option.bind_some, if_neg (by omega)]
  | succ k ih =>
    intro l hl m hm
    obtain ⟨m, rfl⟩ : ∃ q, m = q + 1 := ⟨m - 1, by omega⟩
    have h9 := ih (l + 1) (by omega) m (by omega)
    obtain ⟨p1, p2, p3⟩ := I.1.1.2.2.2.2.1 w l hw7 ⟨by omega, by show (l : Int) < T 12 w; omega⟩
    have p1 : 0 ≤ wb_pi T 1 w l ∧ wb_pi T 1 w l < T 21 0 := p1
    have p2 : T 23 (wb_pi T 1 w l) = 0 := p2
    have p3 : T 24 (wb_pi T 1 w l) = w := p3
    unfold w204_223
    rw [wb_r2 ⟨by omega, by omega⟩ ⟨by omega, by omega⟩, Option.bind_some, if_pos (by omega), wq_p I.1.1 hw ⟨by omega, by omega⟩, Option.bind_some, wb_eli, wq_h3 (t := 23) I.1.1 p1 (.inr (.inl ⟨rfl, rfl⟩)), Option.bind_some, wb_eli, p2, wb_r1 (by decide), Option.bind_some, if_pos rfl, wq_h3 (t := 24) I.1.1 p1 (.inr (.inr ⟨rfl, rfl⟩)), Option.bind_some, wb_eli, p3, wb_r2 ⟨by omega, by omega⟩ ⟨by omega, by omega⟩, Option.bind_some, if_pos rfl]
    exact h9
theorem wq_35 {T : sw_T} {N : Int} (I : wq_r T 1 N) : ∀ k l : Nat, (l : Int) + k = T 1 1 → ∀ m, k < m → w204_35 T (T 1 1) (T 21 0) m (we_sw (T 12) l) (we_sw (wb_hd T 1) l) (we_sw (T 7) l) (we_sw (T 8) l) (we_sw (T 10) l) (we_sw (T 6) l) (we_sw (wc_ld T 1) l) l = some (.inl (we_sw (T 12) (T 1 1).toNat, we_sw (wb_hd T 1) (T 1 1).toNat, we_sw (T 7) (T 1 1).toNat, we_sw (T 8) (T 1 1).toNat, we_sw (T 10) (T 1 1).toNat, we_sw (T 6) (T 1 1).toNat, we_sw (wc_ld T 1) (T 1 1).toNat)) := by
  have h1 : 2 ≤ T 1 1 ∧ T 1 1 ≤ 7 := I.1.1.2.1.2.1
  have hcc : 0 ≤ T 21 0 ∧ T 21 0 ≤ 120 := I.1.1.2.1.2.2.2.2
  intro k
  induction k with
  | zero =>
    intro l hl m hm
    obtain ⟨m, rfl⟩ : ∃ q, m = q + 1 := ⟨m - 1, by omega⟩
    unfold w204_35
    rw [wb_r2 ⟨by omega, by omega⟩ ⟨by omega, by omega⟩, Option.bind_some, if_neg (by omega), show (T 1 1).toNat = l by omega]
  | succ k ih =>
    intro l hl m hm
    obtain ⟨m, rfl⟩ : ∃ q, m = q + 1 := ⟨m - 1, by omega⟩
    have h9 := ih (l + 1) (by omega) m (by omega)
    have hw : 0 ≤ (l : Int) ∧ (l : Int) < T 1 1 := ⟨by omega, by omega⟩
    have hw7 : 0 ≤ (l : Int) ∧ (l : Int) < 7 := ⟨by omega, by omega⟩
    have h16 : 0 ≤ T 12 l ∧ T 12 l ≤ 16 := (I.1.1.2.2.1 l hw7).2.2.2.2.2.2.2
    have hha : T 4 l = -1 ∨ (0 ≤ T 4 l ∧ T 4 l < T 21 0 ∧ T 23 (T 4 l) = 1 ∧ T 24 (T 4 l) = l) := (I.1.1.2.2.1 l hw7).2.1
    unfold w204_35
    rw [wb_r2 ⟨by omega, by omega⟩ ⟨by omega, by omega⟩, Option.bind_some, if_pos (by omega),
      wq_s_ld (t := 4) I.1.1 hw (.inl ⟨rfl, rfl⟩), Option.bind_some, wb_eli, wq_s1 I.1.1 hw, Option.bind_some, wb_eli,
      wq_64 (by omega) sw_N (by decide), Option.bind_some,
      wq_s_ld (t := 7) I.1.1 hw (.inr (.inl ⟨rfl, rfl⟩)), Option.bind_some, wb_eli,
      wq_s_ld (t := 8) I.1.1 hw (.inr (.inr (.inl ⟨rfl, rfl⟩))), Option.bind_some, wb_eli,
      wq_s_ld (t := 10) I.1.1 hw (.inr (.inr (.inr ⟨rfl, rfl⟩))), Option.bind_some, wb_eli,
      wq_s4 I.1.1 hw, Option.bind_some, wb_eli, wq_s9 I.1.1 hw, Option.bind_some, wb_eli, (wq_ch I.1.1 hw).1, Option.bind_some, wb_eli,
      wq_150 I hw sw_N (by decide), Option.bind_some, wb_eli, show w204_223 T _ _ _ _ _ _ _ _ _ l (T 12 l) sw_N 0 = some (.inl ()) from wq_223 I hw (T 12 l).toNat 0 (by omega) sw_N (by unfold sw_N; omega), Option.bind_some, wb_eli]
    exact h9
theorem wq_304 {T : sw_T} {N s : Int} (I : wq_r T 1 N) (hs : 0 ≤ s ∧ s < T 21 0) {a2 a3 a4 a5 a6 a7 a8 a9 a10 : Int} : ∀ m, 0 < m → w204_304 T a2 a3 a4 a5 a6 a7 a8 a9 a10 s (T 22 s) m = some (.inl ()) := by
  intro m hm
  obtain ⟨m, rfl⟩ : ∃ q, m = q + 1 := ⟨m - 1, by omega⟩
  have hk : (0 ≤ T 22 s ∧ T 22 s ≤ 99) ∧ (0 ≤ T 23 s ∧ T 23 s ≤ 2) ∧ (0 ≤ T 24 s ∧ T 24 s < 7) := I.1.1.2.2.2.2.2.2.1 s hs
  have hE : T 22 s = 0 ↔ T 23 s = 2 := I.2.2 s hs
  unfold w204_304
  rw [wb_r1 (a := T 22 s) ⟨by omega, by omega⟩, Option.bind_some, if_neg (by omega), wb_r2 ⟨by omega, by omega⟩ (by decide), Option.bind_some, if_neg (by omega), Option.bind_some]
  by_cases h0 : T 22 s = 0
  · rw [if_pos h0, wq_h3 (t := 23) I.1.1 hs (.inr (.inl ⟨rfl, rfl⟩)), Option.bind_some, wb_eli, wb_r2 ⟨by omega, by omega⟩ (by decide), Option.bind_some, if_pos (by omega)]
  · rw [if_neg h0, wq_h3 (t := 23) I.1.1 hs (.inr (.inl ⟨rfl, rfl⟩)), Option.bind_some, wb_eli, wb_r2 ⟨by omega, by omega⟩ (by decide), Option.bind_some, if_neg (by omega)]
theorem wq_282 {T : sw_T} {N : Int} (I : wq_r T 1 N) {a3 a4 a5 a6 a7 a8 a9 : Int} : ∀ k l : Nat, (l : Int) + k = T 21 0 → ∀ m, k < m → w204_282 T (T 21 0) a3 a4 a5 a6 a7 a8 a9 m (we_sw (T 22) l) l = some (.inl (we_W T 1)) := by
  have hcc : 0 ≤ T 21 0 ∧ T 21 0 ≤ 120 := I.1.1.2.1.2.2.2.2
  intro k
  induction k with
  | zero =>
    intro l hl m hm
    obtain ⟨m, rfl⟩ : ∃ q, m = q + 1 := ⟨m - 1, by omega⟩
    unfold w204_282
    rw [wb_r2 ⟨by omega, by omega⟩ ⟨by omega, by omega⟩, Option.bind_some, if_neg (by omega)]
    have e : we_W T 1 = we_sw (T 22) l := by
      show we_sw (T 22) (T 21 0).toNat = _
      rw [show (T 21 0).toNat = l by omega]
    rw [e]
  | succ k ih =>
    intro l hl m hm
    obtain ⟨m, rfl⟩ : ∃ q, m = q + 1 := ⟨m - 1, by omega⟩
    have h9 := ih (l + 1) (by omega) m (by omega)
    have hs : 0 ≤ (l : Int) ∧ (l : Int) < T 21 0 := ⟨by omega, by omega⟩
    unfold w204_282
    rw [wb_r2 ⟨by omega, by omega⟩ ⟨by omega, by omega⟩, Option.bind_some, if_pos (by omega), wq_h3 (t := 22) I.1.1 hs (.inl ⟨rfl, rfl⟩), Option.bind_some, wb_eli, wq_304 I hs sw_N (by decide), Option.bind_some, wb_eli]
    exact h9
theorem wq_rgc {T : sw_T} {N q v : Int} (I : wb_iv T 1 N) (hN : N ≤ 100000000) (hq : 0 ≤ q ∧ q ≤ 10) (h : w75 T q = some (.inl v)) : wb_rg v := by
  obtain ⟨x, g1, -, g3⟩ := wb_cnt (Tm := wq_TM (wb_en T 1)) I (fun j _ => rfl) hq hN
  have := wq_cw hq g1
  rw [h] at this
  cases this
  exact g3
theorem wq_461 {T X : sw_T} {W v : Int} {x : UInt64} {y : UInt32} (hx : wg_d x) (hy : wg_f y) (hX : w81 T 7 3 = some (.inl (v, X))) (hv : 0 ≤ v ∧ v ≤ W) (hW : W ≤ 11880) : w204_461 T W x y 1 = some (1, X) := by
  obtain ⟨d1, d2⟩ := wg_d_cmp hx
  obtain ⟨f1, f2⟩ := wg_f_cmp hy
  unfold w204_461
  rw [wb_r1 (by decide), Option.bind_some, if_neg (by decide), wb_r1 ⟨by omega, by omega⟩, Option.bind_some, if_neg (by omega), wb_r1 ⟨by omega, by omega⟩, Option.bind_some, if_neg (by omega), wb_r1 ⟨by omega, by omega⟩, Option.bind_some, if_neg (by omega), wb_r1 ⟨by omega, by omega⟩, Option.bind_some, if_neg (by omega), hX, Option.bind_some, wb_eli]
  show ((sw_r2 v W).bind fun _u => if W < v then some (0, X) else some (1, X)) = some (1, X)
  rw [wb_r2 ⟨by omega, by omega⟩ ⟨by omega, by omega⟩, Option.bind_some, if_neg (by omega)]
theorem wq_holds {T : sw_T} {N : Int} {M K : Int → Int} (S : wq_S T N M K) (hN : N ≤ 100000000) : ∃ X, w204 T = some (1, X) ∧ wq_S X N M K ∧ X 73 1 = T 73 1 := by
  obtain ⟨⟨I, R⟩, sn, hs⟩ := S
  obtain ⟨v, X, x1, x2, x3⟩ := wq_if I R
  have h1 : 2 ≤ T 1 1 ∧ T 1 1 ≤ 7 := I.1.1.2.1.2.1
  have hcc : 0 ≤ T 21 0 ∧ T 21 0 ≤ 120 := I.1.1.2.1.2.2.2.2
  have hW := wc_W_rg I.1.1
  obtain ⟨x, sx1, sx2⟩ := wq_share I.1.1
  obtain ⟨y, sy1, sy2⟩ := wq_even I.1.1 R
  have A := wq_35 I (T 1 1).toNat 0 (by omega) sw_N (by unfold sw_N; omega)
  obtain ⟨Y, hY⟩ : ∃ Y, Y = (we_sw (T 12) (T 1 1).toNat, we_sw (wb_hd T 1) (T 1 1).toNat, we_sw (T 7) (T 1 1).toNat, we_sw (T 8) (T 1 1).toNat, we_sw (T 10) (T 1 1).toNat, we_sw (T 6) (T 1 1).toNat, we_sw (wc_ld T 1) (T 1 1).toNat) := ⟨_, rfl⟩
  rw [← hY] at A
  have A : w204_35 T (T 1 1) (T 21 0) sw_N 0 0 0 0 0 0 0 0 = some (.inl Y) := A
  have hn : 0 ≤ T 1 1 ∧ T 1 1 ≤ 7 := ⟨by omega, h1.2⟩
  have cl := I.1.1.2.2.2.1
  have y1 : Y.1 = wb_s7 (T 12) := by rw [hY]; exact we_sw_s7 hn (fun w hw => (cl w hw).2.2.2.2.2.2.2)
  have y2 : Y.2.1 = wb_s7 (wb_hd T 1) := by rw [hY]; exact we_sw_s7 hn (fun w hw => by unfold wb_hd; rw [(cl w hw).1]; rfl)
  have y3 : Y.2.2.1 = wb_s7 (T 7) := by rw [hY]; exact we_sw_s7 hn (fun w hw => (cl w hw).2.2.2.1)
  have y4 : Y.2.2.2.1 = wb_s7 (T 8) := by rw [hY]; exact we_sw_s7 hn (fun w hw => (cl w hw).2.2.2.2.1)
  have y5 : Y.2.2.2.2.1 = wb_s7 (T 10) := by rw [hY]; exact we_sw_s7 hn (fun w hw => (cl w hw).2.2.2.2.2.2.1)
  have y6 : Y.2.2.2.2.2.1 = wb_s7 (T 6) := by rw [hY]; exact we_sw_s7 hn (fun w hw => (cl w hw).2.2.1)
  have y7 : Y.2.2.2.2.2.2 = we_W T 1 := by rw [hY]; exact wc_all I.1.1 I.2
  have B : w204_282 T (T 21 0) Y.1 Y.2.1 Y.2.2.1 Y.2.2.2.1 Y.2.2.2.2.1 Y.2.2.2.2.2.1 Y.2.2.2.2.2.2 sw_N 0 0 = some (.inl (we_W T 1)) := wq_282 I (T 21 0).toNat 0 (by omega) sw_N (by unfold sw_N; omega)
  have r4 := wq_rgc I.1.1 hN (by decide) (wq_c4 I.1.1)
  have r5 := wq_rgc I.1.1 hN (by decide) (wq_c5 I.1.1)
  have r3 := wq_rgc I.1.1 hN (by decide) (wq_c3 I.1.1)
  have r6 := wq_rgc I.1.1 hN (by decide) (wq_c6 I.1.1)
  have r7 := wq_rgc I.1.1 hN (by decide) (wq_c7 I.1.1)
  have r9 := wq_rgc I.1.1 hN (by decide) (wq_c9 I.1.1)
  have r10 := wq_rgc I.1.1 hN (by decide) (wq_c10 I.1.1)
  have hsum : wb_s7 (T 12) + wb_s7 (wb_hd T 1) + wb_s7 (T 7) = T 21 0 := by
    obtain ⟨j0, j1, j2, -, -⟩ := I.1.1.2.2.2.2.2.2.2
    have hall := wb_ct_all (f := T 23) (T 21 0).toNat (fun j hj => by
      have hk : (0 ≤ T 22 j ∧ T 22 j ≤ 99) ∧ (0 ≤ T 23 j ∧ T 23 j ≤ 2) ∧ (0 ≤ T 24 j ∧ T 24 j < 7) := I.1.1.2.2.2.2.2.2.1 j ⟨by omega, by show (j : Int) < T 21 0; omega⟩
      omega)
    have j0 : wb_ct (T 23) 0 (T 21 0).toNat = wb_s7 (T 12) := j0
    have j1 : wb_ct (T 23) 1 (T 21 0).toNat = wb_s7 (wb_hd T 1) := j1
    have j2 : wb_ct (T 23) 2 (T 21 0).toNat = wb_s7 (T 7) := j2
    omega
  refine ⟨X, ?_, ⟨⟨wq_r_fr I (fun t ht => x3 _ (by omega)), wb_rp_fr I.1.1 R (fun t ht => x3 _ (by omega))⟩, wq_sn_fr sn (Int.le_refl _) (x3 0 (by decide)) (fun a ha => x3 a (by omega)), wq_hs_fr hs (Int.le_refl _) (fun a ha => x3 a (by omega))⟩, by rw [x3 73 (by decide)]⟩
  unfold w204
  rw [wq_c1, Option.bind_some, wb_eli, wq_c2, Option.bind_some, wb_eli, A, Option.bind_some, wb_eli, B, Option.bind_some, wb_eli, sx1, Option.bind_some, sy1, Option.bind_some,
    wq_c4 I.1.1, Option.bind_some, wb_eli, y1, wb_r2 r4 r4, Option.bind_some, if_pos rfl,
    wq_c5 I.1.1, Option.bind_some, wb_eli, y2, wb_r2 r5 r5, Option.bind_some, if_pos rfl,
    wq_c3 I.1.1, Option.bind_some, wb_eli, y3, wb_r2 r3 r3, Option.bind_some, if_pos rfl,
    wq_c6 I.1.1, Option.bind_some, wb_eli, y4, wb_r2 r6 r6, Option.bind_some, if_pos rfl,
    wq_c7 I.1.1, Option.bind_some, wb_eli, y5, wb_r2 r7 r7, Option.bind_some, if_pos rfl,
    wq_c9 I.1.1, Option.bind_some, wb_eli, y6, wb_r2 r9 r9, Option.bind_some, if_pos rfl,
    wq_c10 I.1.1, Option.bind_some, wb_eli, y7, wb_r2 r10 r10, Option.bind_some, if_pos rfl, Option.bind_some, if_pos rfl, hsum, wb_r2 ⟨by omega, by omega⟩ ⟨by omega, by omega⟩, Option.bind_some, if_pos rfl]
  exact wq_461 sx2 sy2 x1 x2 hW.2
