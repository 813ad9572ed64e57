/-! ===== all orders done; obey ===== -/
theorem wt_w10n {T : sw_T} {L j : Int} (t : wt_cl T L) (hj : 1 ≤ j ∧ j ≤ L) (h : T 220 (j - 1) ≠ 59) : w10 T j = some 0 := by
  have hL := t.2.1
  have e : wt_sg (T 220) L (j - 1) = T 220 (j - 1) := if_pos (by omega)
  have hb := t.2.2 (j - 1) ⟨by omega, by omega⟩
  unfold w10
  rw [wb_r1 ⟨by omega, by omega⟩, Option.bind_some, if_neg (by omega), wt_w7 t ⟨by omega, by omega⟩, Option.bind_some, e, wb_r2 ⟨by omega, by omega⟩ (by decide), Option.bind_some, if_neg h]
theorem wt_w10y {T : sw_T} {L j : Int} (t : wt_cl T L) (hj : 0 ≤ j ∧ j < L) (h : j = 0 ∨ T 220 (j - 1) = 59) : w10 T j = some 1 := by
  have hL := t.2.1
  unfold w10
  rw [wb_r1 ⟨by omega, by omega⟩, Option.bind_some]
  by_cases h0 : j = 0
  · rw [if_pos h0]
  · have h1 : T 220 (j - 1) = 59 := by
      rcases h with g | g
      · exact absurd g h0
      · exact g
    have e : wt_sg (T 220) L (j - 1) = T 220 (j - 1) := if_pos (by omega)
    rw [if_neg h0, wt_w7 t ⟨by omega, by omega⟩, Option.bind_some, e, h1, wb_r2 (by decide) (by decide), Option.bind_some, if_pos rfl]
theorem wt_sk {T : sw_T} {L e v : Int} (t : wt_cl T L) (he : e ≤ L) : ∀ (k : Nat) (j : Int), 1 ≤ j → e - j = k → (∀ i, j - 1 ≤ i ∧ i < e - 1 → T 220 i ≠ 59) → ∀ m, w68_35 (m + k) T v j = w68_35 m T v e := by
  have hL := t.2.1
  intro k
  induction k with
  | zero =>
    intro j hj hk hi m
    obtain rfl : j = e := by omega
    rfl
  | succ k ih =>
    intro j hj hk hi m
    rw [← ih (j + 1) (by omega) (by omega) (fun i h => hi i ⟨by omega, h.2⟩) m, show m + (k + 1) = m + k + 1 by omega]
    rw [w68_35, t.1, wb_r2 ⟨by omega, by omega⟩ ⟨by omega, by omega⟩, Option.bind_some, if_pos (by omega), wt_w10n t ⟨hj, by omega⟩ (hi (j - 1) ⟨by omega, by omega⟩), Option.bind_some, wb_r1 (by decide), Option.bind_some, if_pos rfl]
theorem wt_tl_le {T : sw_T} {L : Int} {rd : Int → Int} (t : wt_cl T L) : ∀ (n : Nat) (p r : Int), 0 ≤ p → wt_tl (T 220) L rd n p r → (n : Int) ≤ L - p := by
  intro n
  induction n with
  | zero =>
    intro p r hp h
    have : p = L := h
    omega
  | succ n ih =>
    intro p r hp h
    obtain ⟨h1, h2, p', h3, h4⟩ := h
    have := (wt_part_ne t (by omega) h3).1
    have := ih p' (r + 1) (by omega) h4
    omega
theorem wt_exec {L rtot : Int} {rd : Int → Int} : ∀ (n : Nat) (p p' r : Int) (T M : sw_T) (N : Int), wt_cl T L → wb_iw T 1 N → wb_rp T 1 (M 222) → M 221 9 = 0 → M 221 13 = rtot → M 227 = rd → wt_part (T 220) L p p' (rd (3 * r)) (rd (3 * r + 1)) (rd (3 * r + 2)) → wt_tl (T 220) L rd n p' (r + 1) → 0 ≤ p → (p = 0 ∨ T 220 (p - 1) = 59) → (0 ≤ r ∧ 3 * r ≤ p) → rtot = r + 1 + n → ∀ m1 m2 : Nat, L - p < m1 → n + 1 < m2 → ∃ v T1 M1, w68_35 m1 T r p = some (T1, v) ∧ w142_33 m2 M r = some (M1, v) ∧ wb_iw T1 1 (N + 800 * (n + 1)) ∧ wb_rp T1 1 (M1 222) ∧ wb_fc 1 T T1 ∧ wb_fm M M1 ∧ (0 ≤ v ∧ v ≤ rtot) := by
  intro n
  induction n with
  | zero =>
    intro p p' r T M N t I R h9 h13 h227 hp htl hp0 hst hr hrt m1 m2 hm1 hm2
    have hL := t.2.1
    obtain rfl : p' = L := htl
    obtain ⟨hne, hn59⟩ := wt_part_ne t hp0 hp
    obtain ⟨m1, rfl⟩ : ∃ q, m1 = q + 1 := ⟨m1 - 1, by omega⟩
    obtain ⟨m2, rfl⟩ : ∃ q, m2 = q + 2 := ⟨m2 - 2, by omega⟩
    have hrL : 3 * r + 2 < 100 := by omega
    obtain ⟨ok, T1, M1, e1, e2, e3, e4, e5, e6, e7⟩ := wt_do t I R h9 hp (.inl rfl) hp0 ⟨hr.1, hrL⟩ ⟨by rw [h227], by rw [h227], by rw [h227]⟩
    have ec : w68_35 (m1 + 1) T r p = if ok = 0 then some (T1, r) else w68_35 m1 T1 (r + 1) (p + 1) := by
      rw [w68_35, t.1, wb_r2 ⟨by omega, by omega⟩ ⟨by omega, by omega⟩, Option.bind_some, if_pos (by omega), wt_w10y t ⟨hp0, by omega⟩ hst, Option.bind_some, wb_r1 (by decide), Option.bind_some, if_neg (by decide), e1, Option.bind_some]
      show ((sw_r1 ok).bind fun _u => if ok = 0 then some (T1, r) else w68_35 m1 T1 (r + 1) (p + 1)) = _
      rw [wb_r1 ⟨by omega, by omega⟩, Option.bind_some]
    have em : w142_33 (m2 + 2) M r = if ok = 0 then some (M1, r) else w142_33 (m2 + 1) M1 (r + 1) := by
      rw [w142_33, h13, wb_r2 ⟨by omega, by omega⟩ ⟨by omega, by omega⟩, Option.bind_some, if_pos (by omega), e2, Option.bind_some]
      show ((sw_r1 ok).bind fun _u => if ok = 0 then some (M1, r) else w142_33 (m2 + 1) M1 (r + 1)) = _
      rw [wb_r1 ⟨by omega, by omega⟩, Option.bind_some]
    rw [ec, em]
    by_cases h0 : ok = 0
    · rw [if_pos h0, if_pos h0]
      exact ⟨r, T1, M1, rfl, rfl, wb_iw_le e4 (by omega), e5, e6, e7, hr.1, by omega⟩
    · rw [if_neg h0, if_neg h0]
      have t1 : wt_cl T1 p' := by
        unfold wt_cl
        rw [e6 219 (by decide), e6 220 (by decide)]
        exact t
      have hsk := wt_sk (v := r + 1) t1 (Int.le_refl _) (p' - (p + 1)).toNat (p + 1) (by omega) (by omega) (fun i hi => by
        rw [e6 220 (by decide)]
        exact hn59 i ⟨by omega, by omega⟩) (m1 - (p' - (p + 1)).toNat)
      rw [show m1 - (p' - (p + 1)).toNat + (p' - (p + 1)).toNat = m1 by omega] at hsk
      obtain ⟨q, hq⟩ : ∃ q, m1 - (p' - (p + 1)).toNat = q + 1 := ⟨m1 - (p' - (p + 1)).toNat - 1, by omega⟩
      refine ⟨r + 1, T1, M1, ?_, ?_, wb_iw_le e4 (by omega), e5, e6, e7, by omega, by omega⟩
      · rw [hsk, hq, w68_35, t1.1, wb_r2 ⟨by omega, by omega⟩ ⟨by omega, by omega⟩, Option.bind_some, if_neg (by omega)]
      · rw [w142_33, e7 221 (by decide), h13, wb_r2 ⟨by omega, by omega⟩ ⟨by omega, by omega⟩, Option.bind_some, if_neg (by omega)]
  | succ n ih =>
    intro p p' r T M N t I R h9 h13 h227 hp htl hp0 hst hr hrt m1 m2 hm1 hm2
    have hL := t.2.1
    have htl' := wt_tl_le t _ _ _ (by have := (wt_part_ne t hp0 hp).1; omega) htl
    obtain ⟨q1, q2, p2, q3, q4⟩ := htl
    obtain ⟨hne, hn59⟩ := wt_part_ne t hp0 hp
    obtain ⟨m1, rfl⟩ : ∃ q, m1 = q + 1 := ⟨m1 - 1, by omega⟩
    obtain ⟨m2, rfl⟩ : ∃ q, m2 = q + 1 := ⟨m2 - 1, by omega⟩
    have hrL : 3 * r + 2 < 100 := by omega
    obtain ⟨ok, T1, M1, e1, e2, e3, e4, e5, e6, e7⟩ := wt_do t I R h9 hp (.inr q2) hp0 ⟨hr.1, hrL⟩ ⟨by rw [h227], by rw [h227], by rw [h227]⟩
    have ec : w68_35 (m1 + 1) T r p = if ok = 0 then some (T1, r) else w68_35 m1 T1 (r + 1) (p + 1) := by
      rw [w68_35, t.1, wb_r2 ⟨by omega, by omega⟩ ⟨by omega, by omega⟩, Option.bind_some, if_pos (by omega), wt_w10y t ⟨hp0, by omega⟩ hst, Option.bind_some, wb_r1 (by decide), Option.bind_some, if_neg (by decide), e1, Option.bind_some]
      show ((sw_r1 ok).bind fun _u => if ok = 0 then some (T1, r) else w68_35 m1 T1 (r + 1) (p + 1)) = _
      rw [wb_r1 ⟨by omega, by omega⟩, Option.bind_some]
    have em : w142_33 (m2 + 1) M r = if ok = 0 then some (M1, r) else w142_33 m2 M1 (r + 1) := by
      rw [w142_33, h13, wb_r2 ⟨by omega, by omega⟩ ⟨by omega, by omega⟩, Option.bind_some, if_pos (by omega), e2, Option.bind_some]
      show ((sw_r1 ok).bind fun _u => if ok = 0 then some (M1, r) else w142_33 m2 M1 (r + 1)) = _
      rw [wb_r1 ⟨by omega, by omega⟩, Option.bind_some]
    rw [ec, em]
    by_cases h0 : ok = 0
    · rw [if_pos h0, if_pos h0]
      exact ⟨r, T1, M1, rfl, rfl, wb_iw_le e4 (by omega), e5, e6, e7, hr.1, by omega⟩
    · rw [if_neg h0, if_neg h0]
      have e220 : T1 220 = T 220 := e6 220 (by decide)
      have t1 : wt_cl T1 L := by
        unfold wt_cl
        rw [e6 219 (by decide), e220]
        exact t
      have hsk := wt_sk (v := r + 1) t1 (show p' + 1 ≤ L by omega) (p' - p).toNat (p + 1) (by omega) (by omega) (fun i hi => by
        rw [e220]
        exact hn59 i ⟨by omega, by omega⟩) (m1 - (p' - p).toNat)
      rw [show m1 - (p' - p).toNat + (p' - p).toNat = m1 by omega] at hsk
      obtain ⟨v, T2, M2, g1, g2, g3, g4, g5, g6, g7⟩ := ih (p' + 1) p2 (r + 1) T1 M1 (N + 800) t1 e4 e5 (by rw [e7 221 (by decide)]; exact h9) (by rw [e7 221 (by decide)]; exact h13) (by rw [e7 227 (by decide)]; exact h227) (by rw [e220]; exact q3) (by rw [e220]; exact q4) (by omega) (.inr (by rw [show p' + 1 - 1 = p' by omega, e220]; exact q2)) ⟨by omega, by omega⟩ (by omega) (m1 - (p' - p).toNat) m2 (by omega) (by omega)
      refine ⟨v, T2, M2, by rw [hsk]; exact g1, g2, wb_iw_le g3 (by omega), g4, wb_fc.tr e6 g5, wb_fm.tr e7 g6, g7⟩
theorem wb_op_obey {T Tm : sw_T} {N : Int} (h : wb_R T Tm N) : wb_res (w176 T) (w142 Tm) T Tm (N + 56000) := by
  have h0 := wb_R_k (k := 0) (v := 0) h (by decide)
  obtain ⟨t, tx⟩ := wt_tx_of h0
  have hL := t.2.1
  obtain ⟨X, a, w, r, rd, e1, s1, b1, q⟩ := wt_read t tx
  have hX := wt_R h0 s1
  have hX0 : X 221 0 = 0 := by
    rw [s1.2.2.2.2.1 0 (by decide) (by decide) (by decide), wb_rdu, if_pos rfl, if_pos rfl]
  rcases q with ⟨rfl, ⟨q1, q2⟩, n, p', q3, q4, q5⟩ | ⟨rfl, q1, q2⟩
  · obtain ⟨T1, Tm1, g1, g2, R1, sv⟩ := wb_save hX
    have hn := wt_tl_le t n p' 1 (by have := (wt_part_ne t (Int.le_refl 0) q4).1; omega) q5
    have hp2 := (wt_part_ne t (Int.le_refl 0) q4).1
    have t1 : wt_cl T1 (T 219 1) := by
      unfold wt_cl
      rw [sv.1 219 (by decide), sv.1 220 (by decide)]
      exact t
    have e220 : T1 220 = T 220 := sv.1 220 (by decide)
    have h13 : sw_up Tm1 221 8 0 221 13 = r := by
      rw [wb_rdu, if_pos rfl, if_neg (by decide), sv.2.2 13 (by decide)]
      exact s1.2.2.1
    have h227 : sw_up Tm1 221 8 0 227 = rd := by
      rw [sw_up_ne (by decide), sv.2.1 227 (by decide) (by decide)]
      exact s1.2.2.2.1
    have hm9 : sw_up Tm1 221 8 0 221 9 = 0 := by
      rw [wb_rdu, if_pos rfl, if_neg (by decide)]
      exact R1.2.2.2.2
    have hrp : wb_rp T1 1 (sw_up Tm1 221 8 0 222) := by
      rw [sw_up_ne (by decide)]
      exact R1.1.2
    obtain ⟨v, T2, M2, k1, k2, k3, k4, k5, k6, k7⟩ := wt_exec (rd := rd) n 0 p' 0 T1 (sw_up Tm1 221 8 0) N t1 R1.1.1 hrp hm9 h13 h227 (by rw [e220]; exact q4) (by rw [e220]; exact q5) (Int.le_refl 0) (.inl rfl) ⟨Int.le_refl 0, Int.le_refl 0⟩ (by omega) sw_N sw_N (by unfold sw_N; omega) (by unfold sw_N; omega)
    have RA : wb_R (sw_up T1 219 1 0) (sw_up Tm1 221 8 0) N := by
      refine wb_R_text R1 (fun a ha => sw_up_ne (by omega)) ⟨sw_up_ne (by decide), sw_up_ne (by decide), sw_up_ne (by decide), ?_, ?_, ?_⟩ ⟨?_, ?_, ?_⟩
      · rw [wb_rdu, if_pos rfl, if_neg (by decide)]
      · rw [wb_rdu, if_pos rfl, if_neg (by decide)]
      · rw [wb_rdu, if_pos rfl, if_neg (by decide)]
      · rw [wb_rdu, if_pos rfl, if_pos rfl, wb_rdu, if_pos rfl, if_pos rfl]
      · rw [wb_rdu, if_pos rfl, if_pos rfl]
        decide
      · intro i hi
        rw [wb_rdu, if_pos rfl, if_pos rfl] at hi
        omega
    have hfr : ∀ t : Nat, t < 24 → sw_up T2 219 1 0 (1 + t) = T2 (1 + t) := fun t ht => sw_up_ne (by omega)
    have RB : wb_R (sw_up T2 219 1 0) M2 (N + 56000) := by
      refine wb_R_room RA (by omega) (fun a ha => ?_) ⟨k6 224 (by decide), k6 225 (by decide), k6 226 (by decide), by rw [k6 221 (by decide)], by rw [k6 221 (by decide)], by rw [k6 221 (by decide)], by rw [k6 221 (by decide)]⟩ (wb_iw_le (wb_iw_fr k3 hfr) (by omega)) (wb_rp_fr k3.1 k4 hfr)
      by_cases h219 : a = 219
      · subst h219
        rw [sw_up_eq, sw_up_eq, k5 219 (by decide)]
      · rw [sw_up_ne h219, sw_up_ne h219, k5 a (by omega)]
    refine wb_res_ok (T1 := sw_up T2 219 1 0) (Tm1 := M2) (v := v) (wb_h176 ?_ ⟨by omega, by omega⟩) ?_ ⟨by omega, by omega⟩ ?_ (fun a ha => ?_) (fun a ha => ?_) RB
    · unfold w68
      rw [q2, Option.bind_some, wb_r1 (by decide), Option.bind_some, if_neg (by decide), g1, Option.bind_some, k1, Option.bind_some]
      rfl
    · unfold w142
      rw [wb_pf, Option.bind_some, e1, Option.bind_some, s1.2.1, wb_r1 (by decide), Option.bind_some, if_neg (by decide), g2, Option.bind_some, wb_pf, Option.bind_some, k2, Option.bind_some]
    · rw [k6 221 (by decide), wb_rdu, if_pos rfl, if_neg (by decide), sv.2.2 0 (by decide)]
      exact hX0
    · rw [sw_up_ne (by omega), k5 a (by omega), sv.1 a (by omega)]
    · rw [k6 a (by omega), sw_up_ne (by omega), sv.2.1 a (by omega) (by omega), s1.2.2.2.2.2 a (by omega) (by omega), sw_up_ne (by omega)]
  · have hle : wb_R T (sw_up X 221 0 1) (N + 56000) := by
      have := wb_R_k (k := 0) (v := 1) hX (by decide)
      exact wb_R_room this (by omega) (fun _ _ => rfl) ⟨rfl, rfl, rfl, rfl, rfl, rfl, rfl⟩ (wb_iw_le this.1.1 (by omega)) this.1.2
    refine ⟨1, 0, T, sw_up X 221 0 1, wb_t176_0 ?_, ?_, ?_, fun h => absurd h (by decide), ⟨wb_rgd (by decide), wb_rgd (by decide)⟩, fun _ _ => rfl, fun a ha => ?_, hle⟩
    · unfold w68
      rw [q2, Option.bind_some, wb_r1 (by decide), Option.bind_some, if_pos rfl]
    · unfold w142
      rw [wb_pf, Option.bind_some, e1, Option.bind_some, s1.2.1, wb_r1 (by decide), Option.bind_some, if_pos rfl, wb_w97, Option.bind_some]
    · rw [wb_rdu, if_pos rfl, if_pos rfl]
    · rw [sw_up_ne (by omega), s1.2.2.2.2.2 a (by omega) (by omega), sw_up_ne (by omega)]
