/-! ===== the text: both read alike ===== -/
def wt_who (c : Int → Int) (L p w : Int) : Prop := p < L ∧ (48 ≤ c p ∧ c p ≤ 53) ∧ w = c p - 48
/-- an order that stands from p to p' -/
def wt_part (c : Int → Int) (L p p' k w n : Int) : Prop := p < L ∧ c p = k ∧ ((k = 108 ∧ wt_who c L (p + 1) w ∧ (p + 2 < L ∧ c (p + 2) = 46) ∧ wt_nb c L (p + 3) p' n) ∨ (k = 118 ∧ wt_who c L (p + 1) w ∧ (p + 2 < L ∧ (49 ≤ c (p + 2) ∧ c (p + 2) ≤ 57) ∧ n = c (p + 2) - 48) ∧ p' = p + 3) ∨ (k = 119 ∧ wt_who c L (p + 1) w ∧ p' = p + 2) ∨ (k = 109 ∧ wt_nb c L (p + 1) p' n))
/-- the orders behind one that ended at p -/
def wt_tl (c : Int → Int) (L : Int) (rd : Int → Int) : Nat → Int → Int → Prop
  | 0, p, _ => p = L
  | k + 1, p, r => p < L ∧ c p = 59 ∧ ∃ p', wt_part c L (p + 1) p' (rd (3 * r)) (rd (3 * r + 1)) (rd (3 * r + 2)) ∧ wt_tl c L rd k p' (r + 1)
theorem wt_rd3 {rd : Int → Int} {l u v n : Int} : sw_ui (sw_ui (sw_ui rd l u) (l + 1) v) (l + 2) n l = u ∧ sw_ui (sw_ui (sw_ui rd l u) (l + 1) v) (l + 2) n (l + 1) = v ∧ sw_ui (sw_ui (sw_ui rd l u) (l + 1) v) (l + 2) n (l + 2) = n ∧ ∀ i, i < l → sw_ui (sw_ui (sw_ui rd l u) (l + 1) v) (l + 2) n i = rd i := by
  unfold sw_ui
  refine ⟨?_, ?_, ?_, fun i hi => ?_⟩
  · rw [if_neg (by omega), if_neg (by omega), if_pos rfl]
  · rw [if_neg (by omega), if_pos rfl]
  · rw [if_pos rfl]
  · rw [if_neg (by omega), if_neg (by omega), if_neg (by omega)]
/-- what a state that fails leaves -/
def wt_ill (T : sw_T) (L a : Int) : Prop := ∃ s, wt_at T s a ∧ wb_rg s ∧ s ≠ 4 ∧ s ≠ 8 ∧ (a = L ∨ (a < L ∧ wt_nx s (T 220 a) = -1))
def wt_fin (T : sw_T) (L a : Int) : Prop := ∃ s, wt_at T s a ∧ (s = 8 ∨ (s = 4 ∧ ¬ (48 ≤ wt_sg (T 220) L a ∧ wt_sg (T 220) L a ≤ 57)))
theorem wt_sgn {c : Int → Int} {L a : Int} {P : Int → Prop} (ha : a ≤ L) (h : ¬ P (wt_sg c L a)) : a = L ∨ (a < L ∧ ¬ P (c a)) := by
  unfold wt_sg at h
  by_cases g : a < L
  · rw [if_pos g] at h
    exact .inr ⟨g, h⟩
  · exact .inl (by omega)
theorem wt_ill_of {T : sw_T} {L a s : Int} {P : Int → Prop} (h : wt_at T s a) (hs : wb_rg s ∧ s ≠ 4 ∧ s ≠ 8) (ha : a ≤ L) (hp : ¬ P (wt_sg (T 220) L a)) (hn : ∀ x, ¬ P x → wt_nx s x = -1) : wt_ill T L a := by
  refine ⟨s, h, hs.1, hs.2.1, hs.2.2, ?_⟩
  rcases wt_sgn ha hp with g | ⟨g1, g2⟩
  · exact .inl g
  · exact .inr ⟨g1, hn _ g2⟩
theorem wt_nb_at {T Tm : sw_T} {L p p' n : Int} (t : wt_cl T L) (tx : wt_tx Tm (T 220) L) (h : wt_at T 3 p) (hp0 : 0 ≤ p) (hn : wt_nb (T 220) L p p' n) : (p + 1 ≤ p' ∧ p' ≤ L) ∧ wt_fin T L p' := by
  obtain ⟨h1, h2, h3⟩ := hn
  have a4 : wt_at T 4 (p + 1) := wt_at_st t h (wb_rgd (by decide)) h1 (s' := 4) (if_pos h2) (by decide)
  rcases h3 with ⟨g1, g2, g3⟩ | ⟨g1, g2, g3⟩
  · obtain ⟨q1, q2⟩ := (wt_sg_ok tx (a := p + 1) (by omega)).2 (by omega)
    have a8 : wt_at T 8 (p + 1 + 1) := wt_at_st t a4 (wb_rgd (by decide)) q1 (s' := 8) (by rw [← q2]; exact if_pos g1) (by decide)
    rw [g2]
    exact ⟨⟨by omega, by omega⟩, 8, by rw [show p + 2 = p + 1 + 1 by omega]; exact a8, .inl rfl⟩
  · rw [g2]
    exact ⟨⟨by omega, by omega⟩, 4, a4, .inr ⟨rfl, g1⟩⟩
/-- an order is read -/
theorem wt_ord {T Tm X : sw_T} {L a r w : Int} {rd : Int → Int} (t : wt_cl T L) (tx : wt_tx Tm (T 220) L) (h : wt_S Tm a w r rd X) (ha : 0 ≤ a ∧ a ≤ L) (hr : 0 ≤ r ∧ 3 * r ≤ a) (hc : wt_at T 0 a) : ∃ X' a' w' r' rd', w138 X = some X' ∧ wt_S Tm a' w' r' rd' X' ∧ (∀ i, i < 3 * r → rd' i = rd i) ∧ (a ≤ a' ∧ a' ≤ L) ∧ ((w' = 1 ∧ r' = r + 1 ∧ a + 2 ≤ a' ∧ wt_part (T 220) L a a' (rd' (3 * r)) (rd' (3 * r + 1)) (rd' (3 * r + 2)) ∧ wt_fin T L a') ∨ (w' = 0 ∧ wt_ill T L a')) := by
  have hL := t.2.1
  have hl : 0 ≤ 3 * r ∧ 3 * r + 2 < 100 := ⟨by omega, by omega⟩
  obtain ⟨hx, hxc⟩ := wt_sg_ok tx ha.1
  have hxr : wb_rg (wt_sg (T 220) L a) := ⟨by omega, by omega⟩
  have e0 : w138 X = if wt_sg (T 220) L a = 108 ∨ wt_sg (T 220) L a = 118 ∨ wt_sg (T 220) L a = 119 ∨ wt_sg (T 220) L a = 109 then w138_42 X (3 * r) (wt_sg (T 220) L a) 1 else w138_42 X (3 * r) (wt_sg (T 220) L a) 0 := by
    unfold w138 w138_37
    rw [wt_sign tx h ha, Option.bind_some, h.2.2.1, wb_r2 hxr (by decide), Option.bind_some]
    generalize wt_sg (T 220) L a = x at hxr
    by_cases q1 : x = 108
    · rw [if_pos q1, if_pos (.inl q1)]
    · rw [if_neg q1, wb_r2 hxr (by decide), Option.bind_some]
      by_cases q2 : x = 118
      · rw [if_pos q2, if_pos (.inr (.inl q2))]
      · rw [if_neg q2, wb_r2 hxr (by decide), Option.bind_some]
        by_cases q3 : x = 119
        · rw [if_pos q3, if_pos (.inr (.inr (.inl q3)))]
        · rw [if_neg q3, wb_r2 hxr (by decide), Option.bind_some]
          by_cases q4 : x = 109
          · rw [if_pos q4, if_pos (.inr (.inr (.inr q4)))]
          · rw [if_neg q4, if_neg (by omega)]
  have hdg : wb_rg 48 ∧ wb_rg 53 := ⟨wb_rgd (by decide), wb_rgd (by decide)⟩
  by_cases q4 : wt_sg (T 220) L a = 109
  · -- minutes
    obtain ⟨c1, c2⟩ := hxc (by omega)
    rw [q4] at c2
    obtain ⟨X1, s1, e1⟩ := wt_42 (x := 109) h (.inr rfl) hl (wb_rgd (by decide))
    obtain ⟨X2, e2, s2⟩ := wt_98n (x := 109) (v := 0) s1 hl ⟨wb_rgd (by decide), by decide⟩
    have A1 : wt_at T 3 (a + 1) := wt_at_st t hc (wb_rgd (by decide)) c1 (s' := 3) (by rw [← c2]; rfl) (by decide)
    by_cases d : 49 ≤ wt_sg (T 220) L (a + 1) ∧ wt_sg (T 220) L (a + 1) ≤ 57
    · obtain ⟨X3, a', n, e3, s3, hn⟩ := wt_151n1 (x := 109) tx s2 ⟨by omega, by omega⟩ hl ⟨wb_rgd (by decide), by decide, by decide⟩ d
      obtain ⟨b1, b2⟩ := wt_nb_at t tx A1 (by omega) hn
      obtain ⟨r1, r2, r3, r4⟩ := wt_rd3 (rd := rd) (l := 3 * r) (u := 109) (v := 0) (n := n)
      refine ⟨X3, a', 1, r + 1, _, ?_, s3, r4, ⟨by omega, b1.2⟩, .inl ⟨rfl, rfl, by omega, ?_, b2⟩⟩
      · rw [e0, if_pos (.inr (.inr (.inr q4))), q4, e1, if_pos rfl, e2, e3]
      · rw [r1, r2, r3]
        exact ⟨c1, c2.symm, .inr (.inr (.inr ⟨rfl, hn⟩))⟩
    · obtain ⟨X3, n, e3, s3⟩ := wt_151n0 (x := 109) tx s2 ⟨by omega, by omega⟩ hl ⟨wb_rgd (by decide), by decide, by decide⟩ (.inr rfl) (.inr d)
      refine ⟨X3, a + 1, 0, r, _, ?_, s3, (wt_rd3 (l := 3 * r)).2.2.2, ⟨by omega, by omega⟩, .inr ⟨rfl, wt_ill_of (P := fun x => 49 ≤ x ∧ x ≤ 57) A1 ⟨wb_rgd (by decide), by decide, by decide⟩ (by omega) d (fun x hx => if_neg hx)⟩⟩
      rw [e0, if_pos (.inr (.inr (.inr q4))), q4, e1, if_pos rfl, e2, e3]
  · by_cases q1 : wt_sg (T 220) L a = 108
    · -- a laying
      obtain ⟨c1, c2⟩ := hxc (by omega)
      rw [q1] at c2
      obtain ⟨X1, s1, e1⟩ := wt_42 (x := 108) h (.inr rfl) hl (wb_rgd (by decide))
      have A1 : wt_at T 1 (a + 1) := wt_at_st t hc (wb_rgd (by decide)) c1 (s' := 1) (by rw [← c2]; rfl) (by decide)
      by_cases d : 48 ≤ wt_sg (T 220) L (a + 1) ∧ wt_sg (T 220) L (a + 1) ≤ 53
      · obtain ⟨X2, e2, s2⟩ := wt_dig1 tx s1 ⟨by omega, by omega⟩ hdg d
        obtain ⟨g1, g2⟩ := (wt_sg_ok tx (a := a + 1) (by omega)).2 (by omega)
        have A2 : wt_at T 2 (a + 1 + 1) := wt_at_st t A1 (wb_rgd (by decide)) g1 (s' := 2) (by rw [← g2]; exact if_pos d) (by decide)
        by_cases dd : wt_sg (T 220) L (a + 1 + 1) = 46
        · obtain ⟨X3, e3, s3⟩ := wt_98l1 (v := wt_sg (T 220) L (a + 1) - 48) tx s2 ⟨by omega, by omega⟩ hl dd
          obtain ⟨k1, k2⟩ := (wt_sg_ok tx (a := a + 1 + 1) (by omega)).2 (by omega)
          rw [dd] at k2
          have A3 : wt_at T 3 (a + 1 + 1 + 1) := wt_at_st t A2 (wb_rgd (by decide)) k1 (s' := 3) (by rw [← k2]; rfl) (by decide)
          by_cases d3 : 49 ≤ wt_sg (T 220) L (a + 1 + 1 + 1) ∧ wt_sg (T 220) L (a + 1 + 1 + 1) ≤ 57
          · obtain ⟨X4, a', n, e4, s4, hn⟩ := wt_151n1 (x := 108) tx s3 ⟨by omega, by omega⟩ hl ⟨wb_rgd (by decide), by decide, by decide⟩ d3
            obtain ⟨b1, b2⟩ := wt_nb_at t tx A3 (by omega) hn
            obtain ⟨r1, r2, r3, r4⟩ := wt_rd3 (rd := rd) (l := 3 * r) (u := 108) (v := wt_sg (T 220) L (a + 1) - 48) (n := n)
            refine ⟨X4, a', 1, r + 1, _, ?_, s4, r4, ⟨by omega, b1.2⟩, .inl ⟨rfl, rfl, by omega, ?_, b2⟩⟩
            · rw [e0, if_pos (.inl q1), q1, e1, if_neg (by decide), e2, Option.bind_some, e3, e4]
            · rw [r1, r2, r3]
              refine ⟨c1, c2.symm, .inl ⟨rfl, ⟨g1, by rw [← g2]; exact d, by rw [g2]⟩, ⟨by omega, ?_⟩, ?_⟩⟩
              · rw [show a + 2 = a + 1 + 1 by omega]
                exact k2.symm
              · rw [show a + 3 = a + 1 + 1 + 1 by omega]
                exact hn
          · obtain ⟨X4, n, e4, s4⟩ := wt_151n0 (x := 108) tx s3 ⟨by omega, by omega⟩ hl ⟨wb_rgd (by decide), by decide, by decide⟩ (.inr rfl) (.inr d3)
            refine ⟨X4, _, 0, r, _, ?_, s4, (wt_rd3 (l := 3 * r)).2.2.2, ⟨by omega, by omega⟩, .inr ⟨rfl, wt_ill_of (P := fun x => 49 ≤ x ∧ x ≤ 57) A3 ⟨wb_rgd (by decide), by decide, by decide⟩ (by omega) d3 (fun x hx => if_neg hx)⟩⟩
            rw [e0, if_pos (.inl q1), q1, e1, if_neg (by decide), e2, Option.bind_some, e3, e4]
        · obtain ⟨X3, e3, s3⟩ := wt_98l0 (v := wt_sg (T 220) L (a + 1) - 48) tx s2 ⟨by omega, by omega⟩ hl (.inr rfl) (.inr dd)
          obtain ⟨X4, n, e4, s4⟩ := wt_151_0 (x := 108) tx s3 ⟨by omega, by omega⟩ hl (wb_rgd (by decide))
          refine ⟨X4, _, 0, r, _, ?_, s4, (wt_rd3 (l := 3 * r)).2.2.2, ⟨by omega, by omega⟩, .inr ⟨rfl, wt_ill_of (P := fun x => x = 46) A2 ⟨wb_rgd (by decide), by decide, by decide⟩ (by omega) dd (fun x hx => if_neg hx)⟩⟩
          rw [e0, if_pos (.inl q1), q1, e1, if_neg (by decide), e2, Option.bind_some, e3, e4]
      · obtain ⟨X2, e2, s2⟩ := wt_dig0 tx s1 ⟨by omega, by omega⟩ hdg (.inr rfl) (.inr d)
        obtain ⟨X3, rd3, e3, s3, f3⟩ := wt_98_0 (x := 108) (v := wt_sg (T 220) L (a + 1) - 48) tx s2 ⟨by omega, by omega⟩ hl (wb_rgd (by decide))
        refine ⟨X3, _, 0, r, rd3, ?_, s3, fun i hi => by rw [f3 i hi]; exact if_neg (by omega), ⟨by omega, by omega⟩, .inr ⟨rfl, wt_ill_of (P := fun x => 48 ≤ x ∧ x ≤ 53) A1 ⟨wb_rgd (by decide), by decide, by decide⟩ (by omega) d (fun x hx => if_neg hx)⟩⟩
        rw [e0, if_pos (.inl q1), q1, e1, if_neg (by decide), e2, Option.bind_some, e3]
    · by_cases q2 : wt_sg (T 220) L a = 118
      · -- a speed
        obtain ⟨c1, c2⟩ := hxc (by omega)
        rw [q2] at c2
        obtain ⟨X1, s1, e1⟩ := wt_42 (x := 118) h (.inr rfl) hl (wb_rgd (by decide))
        have A1 : wt_at T 5 (a + 1) := wt_at_st t hc (wb_rgd (by decide)) c1 (s' := 5) (by rw [← c2]; rfl) (by decide)
        by_cases d : 48 ≤ wt_sg (T 220) L (a + 1) ∧ wt_sg (T 220) L (a + 1) ≤ 53
        · obtain ⟨X2, e2, s2⟩ := wt_dig1 tx s1 ⟨by omega, by omega⟩ hdg d
          obtain ⟨g1, g2⟩ := (wt_sg_ok tx (a := a + 1) (by omega)).2 (by omega)
          have A2 : wt_at T 6 (a + 1 + 1) := wt_at_st t A1 (wb_rgd (by decide)) g1 (s' := 6) (by rw [← g2]; exact if_pos d) (by decide)
          obtain ⟨X3, e3, s3⟩ := wt_98n (x := 118) (v := wt_sg (T 220) L (a + 1) - 48) s2 hl ⟨wb_rgd (by decide), by decide⟩
          by_cases d3 : 49 ≤ wt_sg (T 220) L (a + 1 + 1) ∧ wt_sg (T 220) L (a + 1 + 1) ≤ 57
          · obtain ⟨X4, e4, s4⟩ := wt_151v1 tx s3 ⟨by omega, by omega⟩ hl d3
            obtain ⟨k1, k2⟩ := (wt_sg_ok tx (a := a + 1 + 1) (by omega)).2 (by omega)
            have A3 : wt_at T 8 (a + 1 + 1 + 1) := wt_at_st t A2 (wb_rgd (by decide)) k1 (s' := 8) (by rw [← k2]; exact if_pos d3) (by decide)
            obtain ⟨r1, r2, r3, r4⟩ := wt_rd3 (rd := rd) (l := 3 * r) (u := 118) (v := wt_sg (T 220) L (a + 1) - 48) (n := wt_sg (T 220) L (a + 1 + 1) - 48)
            refine ⟨X4, _, 1, r + 1, _, ?_, s4, r4, ⟨by omega, by omega⟩, .inl ⟨rfl, rfl, by omega, ?_, 8, A3, .inl rfl⟩⟩
            · rw [e0, if_pos (.inr (.inl q2)), q2, e1, if_neg (by decide), e2, Option.bind_some, e3, e4]
            · rw [r1, r2, r3]
              refine ⟨c1, c2.symm, .inr (.inl ⟨rfl, ⟨g1, by rw [← g2]; exact d, by rw [g2]⟩, ?_, by omega⟩)⟩
              rw [show a + 2 = a + 1 + 1 by omega]
              exact ⟨k1, by rw [← k2]; exact d3, by rw [k2]⟩
          · obtain ⟨X4, n, e4, s4⟩ := wt_151v0 tx s3 ⟨by omega, by omega⟩ hl (.inr rfl) (.inr d3)
            refine ⟨X4, _, 0, r, _, ?_, s4, (wt_rd3 (l := 3 * r)).2.2.2, ⟨by omega, by omega⟩, .inr ⟨rfl, wt_ill_of (P := fun x => 49 ≤ x ∧ x ≤ 57) A2 ⟨wb_rgd (by decide), by decide, by decide⟩ (by omega) d3 (fun x hx => if_neg hx)⟩⟩
            rw [e0, if_pos (.inr (.inl q2)), q2, e1, if_neg (by decide), e2, Option.bind_some, e3, e4]
        · obtain ⟨X2, e2, s2⟩ := wt_dig0 tx s1 ⟨by omega, by omega⟩ hdg (.inr rfl) (.inr d)
          obtain ⟨X3, rd3, e3, s3, f3⟩ := wt_98_0 (x := 118) (v := wt_sg (T 220) L (a + 1) - 48) tx s2 ⟨by omega, by omega⟩ hl (wb_rgd (by decide))
          refine ⟨X3, _, 0, r, rd3, ?_, s3, fun i hi => by rw [f3 i hi]; exact if_neg (by omega), ⟨by omega, by omega⟩, .inr ⟨rfl, wt_ill_of (P := fun x => 48 ≤ x ∧ x ≤ 53) A1 ⟨wb_rgd (by decide), by decide, by decide⟩ (by omega) d (fun x hx => if_neg hx)⟩⟩
          rw [e0, if_pos (.inr (.inl q2)), q2, e1, if_neg (by decide), e2, Option.bind_some, e3]
      · by_cases q3 : wt_sg (T 220) L a = 119
        · -- a waking
          obtain ⟨c1, c2⟩ := hxc (by omega)
          rw [q3] at c2
          obtain ⟨X1, s1, e1⟩ := wt_42 (x := 119) h (.inr rfl) hl (wb_rgd (by decide))
          have A1 : wt_at T 7 (a + 1) := wt_at_st t hc (wb_rgd (by decide)) c1 (s' := 7) (by rw [← c2]; rfl) (by decide)
          by_cases d : 48 ≤ wt_sg (T 220) L (a + 1) ∧ wt_sg (T 220) L (a + 1) ≤ 53
          · obtain ⟨X2, e2, s2⟩ := wt_dig1 tx s1 ⟨by omega, by omega⟩ hdg d
            obtain ⟨g1, g2⟩ := (wt_sg_ok tx (a := a + 1) (by omega)).2 (by omega)
            have A2 : wt_at T 8 (a + 1 + 1) := wt_at_st t A1 (wb_rgd (by decide)) g1 (s' := 8) (by rw [← g2]; exact if_pos d) (by decide)
            obtain ⟨X3, e3, s3⟩ := wt_98n (x := 119) (v := wt_sg (T 220) L (a + 1) - 48) s2 hl ⟨wb_rgd (by decide), by decide⟩
            obtain ⟨X4, e4, s4⟩ := wt_151w s3 hl (.inr rfl)
            obtain ⟨r1, r2, r3, r4⟩ := wt_rd3 (rd := rd) (l := 3 * r) (u := 119) (v := wt_sg (T 220) L (a + 1) - 48) (n := 0)
            refine ⟨X4, _, 1, r + 1, _, ?_, s4, r4, ⟨by omega, by omega⟩, .inl ⟨rfl, rfl, by omega, ?_, 8, A2, .inl rfl⟩⟩
            · rw [e0, if_pos (.inr (.inr (.inl q3))), q3, e1, if_neg (by decide), e2, Option.bind_some, e3, e4]
            · rw [r1, r2, r3]
              exact ⟨c1, c2.symm, .inr (.inr (.inl ⟨rfl, ⟨g1, by rw [← g2]; exact d, by rw [g2]⟩, by omega⟩))⟩
          · obtain ⟨X2, e2, s2⟩ := wt_dig0 tx s1 ⟨by omega, by omega⟩ hdg (.inr rfl) (.inr d)
            obtain ⟨X3, rd3, e3, s3, f3⟩ := wt_98_0 (x := 119) (v := wt_sg (T 220) L (a + 1) - 48) tx s2 ⟨by omega, by omega⟩ hl (wb_rgd (by decide))
            refine ⟨X3, _, 0, r, rd3, ?_, s3, fun i hi => by rw [f3 i hi]; exact if_neg (by omega), ⟨by omega, by omega⟩, .inr ⟨rfl, wt_ill_of (P := fun x => 48 ≤ x ∧ x ≤ 53) A1 ⟨wb_rgd (by decide), by decide, by decide⟩ (by omega) d (fun x hx => if_neg hx)⟩⟩
            rw [e0, if_pos (.inr (.inr (.inl q3))), q3, e1, if_neg (by decide), e2, Option.bind_some, e3]
        · -- no order begins so
          obtain ⟨X1, s1, e1⟩ := wt_42 (x := wt_sg (T 220) L a) h (.inl rfl) hl hxr
          rw [Int.add_zero] at s1
          obtain ⟨X2, e2, s2⟩ := wt_dig0 tx s1 ha hdg (.inl rfl) (.inl rfl)
          obtain ⟨X3, rd3, e3, s3, f3⟩ := wt_98_0 (x := wt_sg (T 220) L a) (v := wt_sg (T 220) L a - 48) tx s2 ha hl hxr
          refine ⟨X3, _, 0, r, rd3, ?_, s3, fun i hi => by rw [f3 i hi]; exact if_neg (by omega), ⟨by omega, by omega⟩, .inr ⟨rfl, wt_ill_of (P := fun x => x = 108 ∨ x = 109 ∨ x = 118 ∨ x = 119) hc ⟨wb_rgd (by decide), by decide, by decide⟩ ha.2 (by omega) (fun x hx => ?_)⟩⟩
          · rw [e0, if_neg (by omega), e1, if_neg q4, e2, Option.bind_some, e3]
          · unfold wt_nx
            rw [if_pos rfl, if_neg (by omega), if_neg (by omega), if_neg (by omega), if_neg (by omega)]
