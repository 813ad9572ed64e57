/-! ===== set, keep, go back, undo, append, clear ===== -/
theorem wb_ix {m : Nat} {j : Int} (h : 0 ≤ j ∧ j < m) : sw_ix m j = some () := if_pos h
theorem wb_op_set1 {T Tm : sw_T} {N p q lo hi : Int} (h : wb_R T Tm N) (hp : 0 ≤ p ∧ p < 3) (hq : wb_rg q) (h2 : sw_gv 0 p = lo) (h3 : sw_gv 1 p = hi) (hb : 0 ≤ lo ∧ lo ≤ hi ∧ hi ≤ 99) (hs : lo ≤ q ∧ q ≤ hi → (p = 0 → 2 ≤ q ∧ q ≤ 99) ∧ (p = 1 → 0 ≤ q ∧ q ≤ 2) ∧ (p = 2 → 1 ≤ q ∧ q ≤ 20)) (hm : w132 Tm p q = (w96 (sw_up Tm 221 0 0) q lo hi).bind fun r => w132_55 (sw_up Tm 221 0 0) p q r) : wb_res (w174 T p q) (w132 Tm p q) T Tm N := by
  have h1 : 2 ≤ T 1 1 ∧ T 1 1 ≤ 7 := h.1.1.1.2.1.2.1
  have h0 := wb_R_k (k := 0) (v := 0) h (by decide)
  by_cases hv : lo ≤ q ∧ q ≤ hi
  · obtain ⟨T1, Tm1, e1, e2, R1, s⟩ := wb_save h0
    have hs1 : T1 1 = T 1 := s.1 1 (by decide)
    have g1 := wb_set_iv R1.1.1.1 hp (hs hv)
    have g2 := wb_up_set (v := q) R1.1.2 hp
    have g3 : Tm1 222 p = T1 2 p := wb_rd_set R1.1.2 (by rw [hs1]; exact h1.1) hp
    have hrg : wb_rg (T1 2 p) := by
      have hi : (2 ≤ T1 2 0 ∧ T1 2 0 ≤ 99) ∧ (0 ≤ T1 2 1 ∧ T1 2 1 ≤ 2) ∧ (1 ≤ T1 2 2 ∧ T1 2 2 ≤ 20) := R1.1.1.1.1
      have e : p = 0 ∨ p = 1 ∨ p = 2 := by omega
      rcases e with rfl | rfl | rfl
      · exact wb_rgd (by have := hi.1; omega)
      · exact wb_rgd (by have := hi.2.1; omega)
      · exact wb_rgd (by have := hi.2.2; omega)
    refine wb_res_do (v := T1 2 p) (T2 := sw_up T1 2 p q) (Tm2 := sw_up Tm1 222 p q) R1 s (fun a ha => sw_up_ne (by omega)) wb_fm.rf.up (Int.le_refl _) ⟨g1, by rw [sw_up_ne (by decide)]; exact R1.1.1.2⟩ (by rw [wb_m]; exact g2) (wb_h174 ?_ hrg) ?_ hrg
    · unfold w64
      rw [wb_w92y hp, Option.bind_some, wb_eli, wb_ix ⟨hp.1, by omega⟩, Option.bind_some, h2, wb_r2 hq ⟨by omega, by omega⟩, Option.bind_some, if_neg (by omega), Option.bind_some, h3, wb_r2 hq ⟨by omega, by omega⟩, Option.bind_some, if_neg (by omega), e1, Option.bind_some, wb_ld ⟨hp.1, by omega⟩, Option.bind_some, wb_st ⟨hp.1, by omega⟩, Option.bind_some]
    · rw [hm, wb_w96y (wb_rgd (by omega)) (wb_rgd (by omega)) hv, Option.bind_some]
      unfold w132_55
      rw [wb_r1 (by decide), Option.bind_some, if_neg (by decide), e2, Option.bind_some, wb_ld ⟨hp.1, by omega⟩, Option.bind_some, wb_st ⟨hp.1, by omega⟩, Option.bind_some, g3]
  · refine wb_res_no (k := 2) (wb_t174_0 ?_) ?_ ⟨wb_rgd (by decide), by decide⟩ h
    · unfold w64
      rw [wb_w92y hp, Option.bind_some, wb_eli, wb_ix ⟨hp.1, by omega⟩, Option.bind_some, h2, wb_r2 hq ⟨by omega, by omega⟩, Option.bind_some]
      by_cases hq1 : q < lo
      · rw [if_pos hq1]
      · rw [if_neg hq1, Option.bind_some, h3, wb_r2 hq ⟨by omega, by omega⟩, Option.bind_some, if_pos (by omega)]
    · rw [hm, wb_w96n hq (wb_rgd (by omega)) (wb_rgd (by omega)) hv, Option.bind_some]
      unfold w132_55
      rw [wb_r1 (by decide), Option.bind_some, if_pos rfl, wb_w97, Option.bind_some]
theorem wb_op_set {T Tm : sw_T} {N p q : Int} (h : wb_R T Tm N) (hp : wb_rg p) (hq : wb_rg q) : wb_res (w174 T p q) (w132 Tm p q) T Tm N := by
  by_cases hv : 0 ≤ p ∧ p < 3
  · have hm : ∀ lo hi, (p = 0 → lo = 2 ∧ hi = 99) → (p = 1 → lo = 0 ∧ hi = 2) → (p = 2 → lo = 1 ∧ hi = 20) → w132 Tm p q = (w96 (sw_up Tm 221 0 0) q lo hi).bind fun r => w132_55 (sw_up Tm 221 0 0) p q r := fun lo hi a0 a1 a2 => by
      unfold w132
      rw [wb_pf, Option.bind_some, wb_w96y (wb_rgd (by decide)) (wb_rgd (by decide)) (by omega), Option.bind_some, wb_r1 (by decide), Option.bind_some, if_neg (by decide), wb_r1 ⟨by omega, by omega⟩, Option.bind_some]
      by_cases q0 : p = 0
      · rw [if_pos q0, (a0 q0).1, (a0 q0).2]
      · rw [if_neg q0, wb_r2 ⟨by omega, by omega⟩ (by decide), Option.bind_some]
        by_cases q1 : p = 1
        · rw [if_pos q1, (a1 q1).1, (a1 q1).2]
        · rw [if_neg q1, (a2 (by omega)).1, (a2 (by omega)).2]
    have e : p = 0 ∨ p = 1 ∨ p = 2 := by omega
    rcases e with rfl | rfl | rfl
    · exact wb_op_set1 (lo := 2) (hi := 99) h hv hq rfl rfl (by decide) (fun g => ⟨fun _ => g, fun g => absurd g (by decide), fun g => absurd g (by decide)⟩) (hm 2 99 (by decide) (by decide) (by decide))
    · exact wb_op_set1 (lo := 0) (hi := 2) h hv hq rfl rfl (by decide) (fun g => ⟨fun g => absurd g (by decide), fun _ => g, fun g => absurd g (by decide)⟩) (hm 0 2 (by decide) (by decide) (by decide))
    · exact wb_op_set1 (lo := 1) (hi := 20) h hv hq rfl rfl (by decide) (fun g => ⟨fun g => absurd g (by decide), fun g => absurd g (by decide), fun _ => g⟩) (hm 1 20 (by decide) (by decide) (by decide))
  · refine wb_res_no (k := 1) (wb_t174_2 ?_) ?_ ⟨wb_rgd (by decide), by decide⟩ h
    · unfold w64
      rw [wb_w92n hp hv, Option.bind_some, wb_elr]
    · unfold w132
      rw [wb_pf, Option.bind_some, wb_w96n hp (wb_rgd (by decide)) (wb_rgd (by decide)) (by omega), Option.bind_some, wb_r1 (by decide), Option.bind_some, if_pos rfl, wb_w97, Option.bind_some]
theorem wb_op_keep {T Tm : sw_T} {N : Int} (h : wb_R T Tm N) (hN : N ≤ 2000000000) : wb_rs2 (w69 T) (w143 Tm) T Tm N := by
  obtain ⟨⟨I, R⟩, ⟨a1, a2⟩, ⟨b1, b2, b3, b4⟩, ⟨c1, c2, c3⟩, d⟩ := h
  have h1 : 2 ≤ T 1 1 ∧ T 1 1 ≤ 7 := I.1.2.1.2.1
  have hm := I.1.2.1.1
  obtain ⟨X, e1, e2, e3⟩ := wb_copy (b := 25) (c := 1) I.1 (.inr (by decide))
  obtain ⟨Y, g1, g2, g3⟩ := wb_w143_7 (T := sw_up Tm 221 0 0)
  have hY : ∀ a, a ≠ 225 → a ≠ 221 → Y a = Tm a := fun a h1 h2 => by rw [g2 a h1, sw_up_ne h2]
  have hY1 : ∀ k, Y 221 k = if k = 0 then 0 else Tm 221 k := fun k => by rw [g2 221 (by decide), wb_rdu, if_pos rfl]
  have hr : ∀ t : Nat, t < 24 → sw_up X 0 5 1 (1 + t) = T (1 + t) := fun t ht => by rw [sw_up_ne (by omega)]; exact e2 _ (by omega)
  have hq : wb_eq T 1 (sw_up X 0 5 1) 25 := fun t ht i hi1 hi2 => by rw [sw_up_ne (by omega)]; exact e3 t ht i hi1 hi2
  have m3 : Tm 222 3 = T 1 0 := (wb_rd_sc R h1.1).1
  have hX1 : sw_up X 0 5 1 1 0 = T 1 0 := by rw [sw_up_ne (by decide), e2 1 (by decide)]
  refine ⟨T 1 0, sw_up X 0 5 1, sw_up Y 221 6 1, ?_, ?_, ⟨by omega, by omega⟩, fun a ha => ?_, fun a ha => ?_, ⟨wb_iw_fr I hr, ?_⟩, ⟨?_, .inr ⟨?_, wb_iw_eq I hq, ?_⟩⟩, ⟨?_, ?_, ?_, ?_⟩, ⟨?_, ?_, ?_⟩, ?_⟩
  · unfold w69
    rw [e1, Option.bind_some, wb_pb (.inr rfl), Option.bind_some, hX1]
  · unfold w143
    rw [wb_pf, Option.bind_some, g1, Option.bind_some, wb_pb (.inr rfl), Option.bind_some, wb_ld (by decide), Option.bind_some, sw_up_ne (show 222 ≠ 221 by decide), hY 222 (by decide) (by decide), m3]
  · rw [sw_up_ne (by omega)]
    exact e2 a (by omega)
  · rw [sw_up_ne (by omega)]
    exact hY a (by omega) (by omega)
  · rw [sw_up_ne (by decide), hY 222 (by decide) (by decide)]
    exact wb_rp_fr I.1 R hr
  · rw [wb_rdu, if_pos rfl, if_pos rfl, wb_rdu, if_pos rfl, if_pos rfl]
  · rw [wb_rdu, if_pos rfl, if_pos rfl]
  · rw [sw_up_ne (by decide)]
    exact wb_rp_cg (wb_iv_eq I.1 hq) (wb_rp_eq I.1 hq R) (fun j hj => by rw [g3 j hj, sw_up_ne (by decide)])
  · rw [sw_up_ne (by decide), e2 73 (by decide), wb_rdu, if_pos rfl, if_neg (by decide), hY1, if_neg (by decide)]
    exact b1
  · rw [sw_up_ne (by decide), e2 73 (by decide)]
    exact b2
  · unfold wb_hp
    rw [sw_up_ne (by decide), e2 74 (by decide)]
    exact b3
  · rw [sw_up_ne (by decide), e2 73 (by decide), sw_up_ne (by decide), hY 224 (by decide) (by decide)]
    refine wb_hi_fr b3 b4 (Int.le_refl _) b2.2 (by rw [sw_up_ne (by decide), e2 74 (by decide)]) (fun k hk t ht => ?_)
    have := wb_hx_rg (b3.1 k ⟨hk.1, by omega⟩)
    rw [sw_up_ne (by omega)]
    exact e2 _ (by omega)
  · rw [sw_up_ne (by decide), e2 219 (by decide), wb_rdu, if_pos rfl, if_neg (by decide), hY1, if_neg (by decide)]
    exact c1
  · rw [sw_up_ne (by decide), e2 219 (by decide)]
    exact c2
  · rw [sw_up_ne (show 219 ≠ 0 by decide), e2 219 (by decide), sw_up_ne (show 220 ≠ 0 by decide), e2 220 (by decide), sw_up_ne (by decide), hY 226 (by decide) (by decide)]
    exact c3
  · rw [wb_rdu, if_pos rfl, if_neg (by decide), hY1, if_neg (by decide)]
    exact d
theorem wb_op_back {T Tm : sw_T} {N : Int} (h : wb_R T Tm N) (hN : N ≤ 2000000000) : wb_res (w177 T) (w144 Tm) T Tm N := by
  have h0 := wb_R_k (k := 0) (v := 0) h (by decide)
  have a1 := h.2.1.1
  have hm6 : sw_up Tm 221 0 0 221 6 = Tm 221 6 := by rw [wb_rdu, if_pos rfl, if_neg (by decide)]
  have hrg := h.2.1.2
  by_cases hs : T 0 5 = 0
  · refine wb_res_no (k := 1) (wb_t177_1 ?_) ?_ ⟨wb_rgd (by decide), by decide⟩ h
    · unfold w70
      rw [hs, wb_r1 (by decide), Option.bind_some, if_pos rfl]
    · unfold w144
      rw [wb_pf, Option.bind_some, hm6, ← a1, hs, wb_r1 (by decide), Option.bind_some, if_pos rfl, wb_w97, Option.bind_some]
  · have hs1 : T 0 5 = 1 := by
      rcases hrg with q | ⟨q, -⟩
      · exact absurd q hs
      · exact q
    obtain ⟨T1, Tm1, e1, e2, R1, s⟩ := wb_save h0
    have hT0 : T1 0 = T 0 := s.1 0 (by decide)
    obtain ⟨i25, r25⟩ : wb_iw T1 25 N ∧ wb_rp T1 25 (Tm1 225) := by
      rcases R1.2.1.2 with q | ⟨-, q⟩
      · rw [hT0] at q
        exact absurd q hs
      · exact q
    obtain ⟨X, f1, f2, f3⟩ := wb_copy (b := 1) (c := 25) i25.1 (.inl (by decide))
    obtain ⟨Y, g1, g2, g3⟩ := wb_w144_24 (T := Tm1)
    have iX := wb_iw_eq i25 f3
    have rX : wb_rp X 1 (Y 222) := wb_rp_cg iX.1 (wb_rp_eq i25.1 f3 r25) g3
    have hb := iX.1.2.1.1
    have m3 : Y 222 3 = X 1 0 := (wb_rd_sc rX iX.1.2.1.2.1.1).1
    refine wb_res_do (v := X 1 0) R1 s f2 (fun a ha => g2 a ha) (Int.le_refl _) iX rX (wb_h177 ?_ ⟨by omega, by omega⟩) ?_ ⟨by omega, by omega⟩
    · unfold w70
      rw [hs1, wb_r1 (by decide), Option.bind_some, if_neg (by decide), e1, Option.bind_some, f1, Option.bind_some]
    · unfold w144
      rw [wb_pf, Option.bind_some, hm6, ← a1, hs1, wb_r1 (by decide), Option.bind_some, if_neg (by decide), e2, Option.bind_some, g1, Option.bind_some, wb_ld (by decide), Option.bind_some, m3]
theorem wb_op_undo {T Tm : sw_T} {N : Int} (h : wb_R T Tm N) : wb_res (w178 T) (w145 Tm) T Tm N := by
  obtain ⟨⟨I, R⟩, ⟨a1, a2⟩, ⟨b1, b2, b3, b4⟩, ⟨c1, c2, c3⟩, d⟩ := id h
  have hm4 : sw_up Tm 221 0 0 221 4 = T 73 1 := by rw [wb_rdu, if_pos rfl, if_neg (by decide), b1]
  by_cases hs : T 73 1 = 0
  · refine wb_res_no (k := 1) (wb_t178_1 ?_) ?_ ⟨wb_rgd (by decide), by decide⟩ h
    · unfold w71
      rw [hs, wb_r1 (by decide), Option.bind_some, if_pos rfl]
    · unfold w145
      rw [wb_pf, Option.bind_some, hm4, hs, wb_r1 (by decide), Option.bind_some, if_pos rfl, wb_w97, Option.bind_some]
  · obtain ⟨c, hc⟩ : ∃ c, c = T 73 1 - 1 := ⟨_, rfl⟩
    have hx := b3.1 c ⟨by omega, by omega⟩
    have hxr := wb_hx_rg hx
    obtain ⟨I1, R1⟩ := b4 c ⟨by omega, by omega⟩
    have hf5 : ∀ t : Nat, t < 24 → sw_up T 73 1 c ((T 74 c).toNat + t) = T ((T 74 c).toNat + t) := fun t ht => sw_up_ne (by omega)
    obtain ⟨X, f1, f2, f3⟩ := wb_copy (T := sw_up T 73 1 c) (b := 1) (c := (T 74 c).toNat) (wb_iv_fr I1.1 hf5) (.inl (by omega))
    obtain ⟨Y, g1, g2, g3⟩ := wb_w145_30 (T := sw_up (sw_up Tm 221 0 0) 221 4 c) (k := c) (by rw [wb_rdu, if_pos rfl, if_pos rfl]) ⟨by omega, by omega⟩
    have hX : ∀ a, a < 1 ∨ 25 ≤ a → a ≠ 73 → X a = T a := fun a h1 h2 => by rw [f2 a h1, sw_up_ne h2]
    have hX73 : X 73 1 = c := by rw [f2 73 (by decide), wb_rdu, if_pos rfl, if_pos rfl]
    have hY : ∀ a, a ≠ 222 → a ≠ 221 → Y a = Tm a := fun a h1 h2 => by rw [g2 a h1, sw_up_ne h2, sw_up_ne h2]
    have hY1 : ∀ k, Y 221 k = if k = 4 then c else if k = 0 then 0 else Tm 221 k := fun k => by rw [g2 221 (by decide), wb_rdu, if_pos rfl, wb_rdu, if_pos rfl]
    have iX := wb_iw_eq (wb_iw_fr I1 hf5) f3
    have rX : wb_rp X 1 (Y 222) := wb_rp_cg iX.1 (wb_rp_eq (wb_iv_fr I1.1 hf5) f3 (wb_rp_fr I1.1 R1 hf5)) (fun j hj => by rw [g3 j hj, sw_up_ne (by decide), sw_up_ne (by decide)])
    refine wb_res_ok (T1 := X) (Tm1 := Y) (v := c) (wb_h178 ?_ ⟨by omega, by omega⟩) ?_ ⟨by omega, by omega⟩ ?_ (fun a ha => hX a (by omega) (by omega)) (fun a ha => hY a (by omega) (by omega)) ⟨⟨iX, rX⟩, ⟨?_, ?_⟩, ⟨?_, ?_, ?_, ?_⟩, ⟨?_, ?_, ?_⟩, ?_⟩
    · unfold w71 w2
      rw [wb_r1 ⟨by omega, by omega⟩, Option.bind_some, if_neg hs, wb_r2 ⟨by omega, by omega⟩ (by decide), Option.bind_some, if_neg (by omega), wb_r2 ⟨by omega, by omega⟩ (by decide), Option.bind_some, if_neg (by omega), wb_pf, Option.bind_some, ← hc, show sw_up T 73 1 c 73 1 = c by rw [wb_rdu, if_pos rfl, if_pos rfl], wb_lr ⟨by omega, by omega⟩ (by rw [sw_up_ne (by decide)]; exact hx), Option.bind_some, sw_up_ne (show 74 ≠ 73 by decide), f1, Option.bind_some, Option.bind_some, hX73]
    · unfold w145
      rw [wb_pf, Option.bind_some, hm4, wb_r1 ⟨by omega, by omega⟩, Option.bind_some, if_neg hs, wb_pf, Option.bind_some, ← hc, g1, Option.bind_some, hY1, if_pos rfl]
    · rw [hY1]
      rfl
    · rw [hX 0 (by decide) (by decide), hY1]
      exact a1
    · rw [hX 0 (by decide) (by decide), hY 225 (by decide) (by decide)]
      have hq : ∀ t : Nat, t < 24 → X (25 + t) = T (25 + t) := fun t ht => hX _ (by omega) (by omega)
      rcases a2 with q | ⟨q1, q2, q3⟩
      · exact .inl q
      · exact .inr ⟨q1, wb_iw_fr q2 hq, wb_rp_fr q2.1 q3 hq⟩
    · rw [hX73, hY1]
      rfl
    · rw [hX73]
      omega
    · unfold wb_hp
      rw [hX 74 (by decide) (by decide)]
      exact b3
    · rw [hX73, hY 224 (by decide) (by decide)]
      refine wb_hi_fr b3 (fun k hk => b4 k ⟨hk.1, by omega⟩) (Int.le_refl _) (by omega) (hX 74 (by decide) (by decide)) (fun k hk t ht => ?_)
      have := wb_hx_rg (b3.1 k ⟨hk.1, by omega⟩)
      exact hX _ (by omega) (by omega)
    · rw [hX 219 (by decide) (by decide), hY1]
      exact c1
    · rw [hX 219 (by decide) (by decide)]
      exact c2
    · rw [hX 219 (by decide) (by decide), hX 220 (by decide) (by decide), hY 226 (by decide) (by decide)]
      exact c3
    · rw [hY1]
      exact d
/-- the text has changed -/
theorem wb_R_text {T Tm T' Tm' : sw_T} {N : Int} (h : wb_R T Tm N) (hT : ∀ a, a < 219 → T' a = T a) (hm : Tm' 222 = Tm 222 ∧ Tm' 224 = Tm 224 ∧ Tm' 225 = Tm 225 ∧ Tm' 221 4 = Tm 221 4 ∧ Tm' 221 6 = Tm 221 6 ∧ Tm' 221 9 = Tm 221 9) (ht : T' 219 1 = Tm' 221 8 ∧ (0 ≤ T' 219 1 ∧ T' 219 1 ≤ 60) ∧ ∀ i, 0 ≤ i ∧ i < T' 219 1 → T' 220 i = Tm' 226 i ∧ 33 ≤ T' 220 i ∧ T' 220 i ≤ 126) : wb_R T' Tm' N := by
  obtain ⟨⟨I, R⟩, ⟨a1, a2⟩, ⟨b1, b2, b3, b4⟩, -, d⟩ := h
  obtain ⟨m1, m2, m3, m4, m5, m6⟩ := hm
  have hr : ∀ t : Nat, t < 24 → T' (1 + t) = T (1 + t) := fun t ht => hT _ (by omega)
  have hq : ∀ t : Nat, t < 24 → T' (25 + t) = T (25 + t) := fun t ht => hT _ (by omega)
  refine ⟨⟨wb_iw_fr I hr, by rw [m1]; exact wb_rp_fr I.1 R hr⟩, ⟨by rw [hT 0 (by decide), m5]; exact a1, ?_⟩, ⟨by rw [hT 73 (by decide), m4]; exact b1, by rw [hT 73 (by decide)]; exact b2, by unfold wb_hp; rw [hT 74 (by decide)]; exact b3, ?_⟩, ht, by rw [m6]; exact d⟩
  · rw [hT 0 (by decide), m3]
    rcases a2 with q | ⟨q1, q2, q3⟩
    · exact .inl q
    · exact .inr ⟨q1, wb_iw_fr q2 hq, wb_rp_fr q2.1 q3 hq⟩
  · rw [hT 73 (by decide), m2]
    refine wb_hi_fr b3 b4 (Int.le_refl _) b2.2 (hT 74 (by decide)) (fun k hk t ht => ?_)
    have := wb_hx_rg (b3.1 k ⟨hk.1, by omega⟩)
    exact hT _ (by omega)
theorem wb_op_clear {T Tm : sw_T} {N : Int} (h : wb_R T Tm N) : wb_rs2 (w66 T) (w134 Tm) T Tm N := by
  obtain ⟨c1, c2, c3⟩ := h.2.2.2.1
  refine ⟨T 219 1, sw_up T 219 1 0, sw_up (sw_up Tm 221 0 0) 221 8 0, ?_, ?_, ⟨by omega, by omega⟩, fun a ha => sw_up_ne (by omega), fun a ha => ?_, wb_R_text h (fun a ha => sw_up_ne (by omega)) ⟨?_, ?_, ?_, ?_, ?_, ?_⟩ ⟨?_, ?_, ?_⟩⟩
  · unfold w66 w6
    rw [wb_pf, Option.bind_some, Option.bind_some]
  · unfold w134
    rw [wb_pf, Option.bind_some, wb_pf, Option.bind_some, wb_rdu, if_pos rfl, if_neg (by decide), c1]
  · rw [sw_up_ne (by omega), sw_up_ne (by omega)]
  · rw [sw_up_ne (by decide), sw_up_ne (by decide)]
  · rw [sw_up_ne (by decide), sw_up_ne (by decide)]
  · rw [sw_up_ne (by decide), sw_up_ne (by decide)]
  · rw [wb_rdu, if_pos rfl, if_neg (by decide), wb_rdu, if_pos rfl, if_neg (by decide)]
  · rw [wb_rdu, if_pos rfl, if_neg (by decide), wb_rdu, if_pos rfl, if_neg (by decide)]
  · rw [wb_rdu, if_pos rfl, if_neg (by decide), wb_rdu, if_pos rfl, if_neg (by decide)]
  · rw [wb_rdu, if_pos rfl, if_pos rfl, wb_rdu, if_pos rfl, if_pos rfl]
  · rw [wb_rdu, if_pos rfl, if_pos rfl]
    decide
  · intro i hi
    rw [wb_rdu, if_pos rfl, if_pos rfl] at hi
    omega
theorem wb_op_append {T Tm : sw_T} {N p : Int} (h : wb_R T Tm N) (hp : wb_rg p) : wb_res (w175 T p) (w133 Tm p) T Tm N := by
  obtain ⟨c1, c2, c3⟩ := h.2.2.2.1
  have hm8 : sw_up Tm 221 0 0 221 8 = T 219 1 := by rw [wb_rdu, if_pos rfl, if_neg (by decide), c1]
  by_cases hv : 33 ≤ p ∧ p ≤ 126
  · by_cases h6 : T 219 1 < 60
    · refine wb_res_ok (T1 := sw_up (sw_up T 220 (T 219 1) p) 219 1 (T 219 1 + 1)) (Tm1 := sw_up (sw_up (sw_up Tm 221 0 0) 226 (T 219 1) p) 221 8 (T 219 1 + 1)) (v := T 219 1 + 1) (wb_h175 ?_ ⟨by omega, by omega⟩) ?_ ⟨by omega, by omega⟩ ?_ (fun a ha => ?_) (fun a ha => ?_) (wb_R_text h (fun a ha => ?_) ⟨?_, ?_, ?_, ?_, ?_, ?_⟩ ⟨?_, ?_, ?_⟩)
      · have e5 : w5 T p = some (sw_up (sw_up T 220 (T 219 1) p) 219 1 (T 219 1 + 1)) := by
          unfold w5
          rw [wb_r2 ⟨by omega, by omega⟩ (by decide), Option.bind_some, if_pos h6, show sw_c16 p = some () from if_pos (by omega), Option.bind_some, show sw_sc T 220 60 (T 219 1) p = some (sw_up T 220 (T 219 1) p) from if_pos (by omega), Option.bind_some, wb_pf, Option.bind_some, sw_up_ne (show 219 ≠ 220 by decide)]
        unfold w65
        rw [wb_r2 hp (by decide), Option.bind_some, if_neg (by omega), wb_r2 hp (by decide), Option.bind_some, if_neg (by omega), wb_r2 ⟨by omega, by omega⟩ (by decide), Option.bind_some, if_pos h6, e5, Option.bind_some, show sw_up (sw_up T 220 (T 219 1) p) 219 1 (T 219 1 + 1) 219 1 = T 219 1 + 1 by rw [wb_rdu, if_pos rfl, if_pos rfl]]
      · unfold w133
        rw [wb_pf, Option.bind_some, wb_w96y (wb_rgd (by decide)) (wb_rgd (by decide)) hv, Option.bind_some, wb_r1 (by decide), Option.bind_some, if_neg (by decide), hm8, wb_r2 ⟨by omega, by omega⟩ (by decide), Option.bind_some, if_neg (by omega), wb_st ⟨by omega, by omega⟩, Option.bind_some, wb_pf, Option.bind_some, sw_up_ne (show 221 ≠ 226 by decide), hm8, show sw_up (sw_up (sw_up Tm 221 0 0) 226 (T 219 1) p) 221 8 (T 219 1 + 1) 221 8 = T 219 1 + 1 by rw [wb_rdu, if_pos rfl, if_pos rfl]]
      · rw [wb_rdu, if_pos rfl, if_neg (by decide), sw_up_ne (by decide), wb_rdu, if_pos rfl, if_pos rfl]
      · rw [sw_up_ne (by omega), sw_up_ne (by omega)]
      · rw [sw_up_ne (by omega), sw_up_ne (by omega), sw_up_ne (by omega)]
      · rw [sw_up_ne (by omega), sw_up_ne (by omega)]
      · rw [sw_up_ne (by decide), sw_up_ne (by decide), sw_up_ne (by decide)]
      · rw [sw_up_ne (by decide), sw_up_ne (by decide), sw_up_ne (by decide)]
      · rw [sw_up_ne (by decide), sw_up_ne (by decide), sw_up_ne (by decide)]
      · rw [wb_rdu, if_pos rfl, if_neg (by decide), sw_up_ne (by decide), wb_rdu, if_pos rfl, if_neg (by decide)]
      · rw [wb_rdu, if_pos rfl, if_neg (by decide), sw_up_ne (by decide), wb_rdu, if_pos rfl, if_neg (by decide)]
      · rw [wb_rdu, if_pos rfl, if_neg (by decide), sw_up_ne (by decide), wb_rdu, if_pos rfl, if_neg (by decide)]
      · rw [wb_rdu, if_pos rfl, if_pos rfl, wb_rdu, if_pos rfl, if_pos rfl]
      · rw [wb_rdu, if_pos rfl, if_pos rfl]
        omega
      · intro i hi
        rw [wb_rdu, if_pos rfl, if_pos rfl] at hi
        rw [sw_up_ne (show 220 ≠ 219 by decide), sw_up_ne (show 226 ≠ 221 by decide), wb_rdu, if_pos rfl, wb_rdu, if_pos rfl]
        by_cases he : i = T 219 1
        · rw [if_pos he, if_pos he]
          omega
        · rw [if_neg he, if_neg he, sw_up_ne (by decide)]
          exact c3 i ⟨hi.1, by omega⟩
    · refine wb_res_no (k := 2) (wb_t175_1 ?_) ?_ ⟨wb_rgd (by decide), by decide⟩ h
      · unfold w65
        rw [wb_r2 hp (by decide), Option.bind_some, if_neg (by omega), wb_r2 hp (by decide), Option.bind_some, if_neg (by omega), wb_r2 ⟨by omega, by omega⟩ (by decide), Option.bind_some, if_neg h6]
      · unfold w133
        rw [wb_pf, Option.bind_some, wb_w96y (wb_rgd (by decide)) (wb_rgd (by decide)) hv, Option.bind_some, wb_r1 (by decide), Option.bind_some, if_neg (by decide), hm8, wb_r2 ⟨by omega, by omega⟩ (by decide), Option.bind_some, if_pos (by omega), wb_w97, Option.bind_some]
  · refine wb_res_no (k := 1) (wb_t175_0 ?_) ?_ ⟨wb_rgd (by decide), by decide⟩ h
    · unfold w65
      rw [wb_r2 hp (by decide), Option.bind_some]
      by_cases h1 : p < 33
      · rw [if_pos h1]
      · rw [if_neg h1, wb_r2 hp (by decide), Option.bind_some, if_pos (by omega)]
    · unfold w133
      rw [wb_pf, Option.bind_some, wb_w96n hp (wb_rgd (by decide)) (wb_rgd (by decide)) hv, Option.bind_some, wb_r1 (by decide), Option.bind_some, if_pos rfl, wb_w97, Option.bind_some]
