/-! ===== the text: the class's states ===== -/
/-- what may follow -/
def wt_nx (s x : Int) : Int :=
  if s = 0 then (if x = 108 then 1 else if x = 109 then 3 else if x = 118 then 5 else if x = 119 then 7 else -1)
  else if s = 1 then (if 48 ≤ x ∧ x ≤ 53 then 2 else -1)
  else if s = 2 then (if x = 46 then 3 else -1)
  else if s = 3 then (if 49 ≤ x ∧ x ≤ 57 then 4 else -1)
  else if s = 4 then (if 48 ≤ x ∧ x ≤ 57 then 8 else if x = 59 then 0 else -1)
  else if s = 5 then (if 48 ≤ x ∧ x ≤ 53 then 6 else -1)
  else if s = 6 then (if 49 ≤ x ∧ x ≤ 57 then 8 else -1)
  else if s = 7 then (if 48 ≤ x ∧ x ≤ 53 then 8 else -1)
  else if s = 8 then (if x = 59 then 0 else -1)
  else -1
theorem wt_w15 {T : sw_T} {x l h : Int} (hx : wb_rg x) (hl : wb_rg l) (hh : wb_rg h) : w15 T l x h = some (if l ≤ x ∧ x ≤ h then 1 else 0) := by
  unfold w15
  rw [wb_r2 hx hl, Option.bind_some]
  by_cases h1 : x < l
  · rw [if_pos h1, if_neg (by omega)]
  · rw [if_neg h1, wb_r2 hx hh, Option.bind_some]
    by_cases h2 : h < x
    · rw [if_pos h2, if_neg (by omega)]
    · rw [if_neg h2, if_pos (by omega)]
theorem wt_w14 {T : sw_T} {x : Int} (hx : wb_rg x) : w14 T x = some (if x = 59 then 0 else -1) := by
  unfold w14
  rw [wb_r2 hx (by decide), Option.bind_some]
  split <;> rfl
theorem wt_w13 {T : sw_T} {x : Int} (hx : wb_rg x) : w13 T x = some (if x = 108 then 1 else if x = 109 then 3 else if x = 118 then 5 else if x = 119 then 7 else -1) := by
  unfold w13
  rw [wb_r1 hx, Option.bind_some]
  repeat' split
  all_goals first | rfl | omega
theorem wt_b01 {P : Prop} [Decidable P] : ((if P then (1 : Int) else 0) = 0 ↔ ¬ P) ∧ wb_rg (if P then (1 : Int) else 0) := by
  by_cases h : P
  · rw [if_pos h]
    exact ⟨⟨fun g => absurd g (by decide), fun g => absurd h g⟩, wb_rgd (by decide)⟩
  · rw [if_neg h]
    exact ⟨⟨fun _ => h, fun _ => rfl⟩, wb_rgd (by decide)⟩
theorem wt_fl {P : Prop} [Decidable P] {a b : Int} : (sw_r1 (if P then (1 : Int) else 0)).bind (fun _u => if (if P then (1 : Int) else 0) = 0 then some a else some b) = some (if P then b else a) := by
  rw [wb_r1 wt_b01.2, Option.bind_some]
  by_cases h : P
  · rw [if_pos h, if_pos h, if_neg (by decide)]
  · rw [if_neg h, if_neg h, if_pos rfl]
theorem wt_w12 {T : sw_T} {s x : Int} (hs : wb_rg s) (hx : wb_rg x) : w12 T s x = some (wt_nx s x) := by
  have r1 : ∀ l h, wb_rg l → wb_rg h → w15 T l x h = some (if l ≤ x ∧ x ≤ h then 1 else 0) := fun l h hl hh => wt_w15 hx hl hh
  unfold w12 wt_nx
  rw [wb_r1 hs, Option.bind_some]
  by_cases h0 : s = 0
  · rw [if_pos h0, if_pos h0, wt_w13 hx, Option.bind_some]
  · rw [if_neg h0, if_neg h0]
    by_cases h1 : s = 1
    · rw [if_pos h1, if_pos h1, r1 48 53 (wb_rgd (by decide)) (wb_rgd (by decide)), Option.bind_some, wt_fl]
    · rw [if_neg h1, if_neg h1]
      by_cases h2 : s = 2
      · rw [if_pos h2, if_pos h2, wb_r2 hx (by decide), Option.bind_some]
        split <;> rfl
      · rw [if_neg h2, if_neg h2]
        by_cases h3 : s = 3
        · rw [if_pos h3, if_pos h3, r1 49 57 (wb_rgd (by decide)) (wb_rgd (by decide)), Option.bind_some, wt_fl]
        · rw [if_neg h3, if_neg h3]
          by_cases h4 : s = 4
          · rw [if_pos h4, if_pos h4, r1 48 57 (wb_rgd (by decide)) (wb_rgd (by decide)), Option.bind_some, wb_r1 wt_b01.2, Option.bind_some]
            by_cases g : 48 ≤ x ∧ x ≤ 57
            · rw [if_pos g, if_pos g, if_neg (by decide)]
            · rw [if_neg g, if_neg g, if_pos rfl, wt_w14 hx, Option.bind_some]
          · rw [if_neg h4, if_neg h4]
            by_cases h5 : s = 5
            · rw [if_pos h5, if_pos h5, r1 48 53 (wb_rgd (by decide)) (wb_rgd (by decide)), Option.bind_some, wt_fl]
            · rw [if_neg h5, if_neg h5]
              by_cases h6 : s = 6
              · rw [if_pos h6, if_pos h6, r1 49 57 (wb_rgd (by decide)) (wb_rgd (by decide)), Option.bind_some, wt_fl]
              · rw [if_neg h6, if_neg h6]
                by_cases h7 : s = 7
                · rw [if_pos h7, if_pos h7, r1 48 53 (wb_rgd (by decide)) (wb_rgd (by decide)), Option.bind_some, wt_fl]
                · rw [if_neg h7, if_neg h7]
                  by_cases h8 : s = 8
                  · rw [if_pos h8, if_pos h8, wt_w14 hx, Option.bind_some]
                  · rw [if_neg h8, if_neg h8]
theorem wt_nx_rg {s x : Int} : -1 ≤ wt_nx s x ∧ wt_nx s x ≤ 8 := by
  unfold wt_nx
  repeat' split
  all_goals omega
/-- a text of the class's -/
def wt_cl (T : sw_T) (L : Int) : Prop := T 219 1 = L ∧ (0 ≤ L ∧ L ≤ 60) ∧ ∀ i, 0 ≤ i ∧ i < L → 33 ≤ T 220 i ∧ T 220 i ≤ 126
/-- the class's walks have come to p in the state s -/
def wt_at (T : sw_T) (s p : Int) : Prop := ∃ q : Nat, (q : Int) = p ∧ ∀ m, w8_4 T (m + q) 0 0 = w8_4 T m s p ∧ w9_4 T (m + q) 0 0 = w9_4 T m s p
theorem wt_at_0 {T : sw_T} : wt_at T 0 0 := ⟨0, rfl, fun _ => ⟨rfl, rfl⟩⟩
theorem wt_at_st {T : sw_T} {L s s' p : Int} (t : wt_cl T L) (h : wt_at T s p) (hs : wb_rg s) (hp : p < L) (hn : wt_nx s (T 220 p) = s') (hn1 : s' ≠ -1) : wt_at T s' (p + 1) := by
  obtain ⟨q, hq, hm⟩ := h
  obtain ⟨t1, t2, t3⟩ := t
  have hx := t3 p ⟨by omega, hp⟩
  refine ⟨q + 1, by omega, fun m => ?_⟩
  obtain ⟨g1, g2⟩ := hm (m + 1)
  have e := wt_w12 (T := T) (s := s) (x := T 220 p) hs ⟨by omega, by omega⟩
  have hr := wt_nx_rg (s := s) (x := T 220 p)
  rw [show m + (q + 1) = m + 1 + q by omega, g1, g2]
  constructor
  · rw [w8_4, t1, wb_r2 ⟨by omega, by omega⟩ ⟨by omega, by omega⟩, Option.bind_some, if_pos hp, wb_ld ⟨by omega, by omega⟩, Option.bind_some, e, Option.bind_some, wb_r2 ⟨by omega, by omega⟩ (by decide), Option.bind_some, hn, if_neg hn1]
  · rw [w9_4, t1, wb_r2 ⟨by omega, by omega⟩ ⟨by omega, by omega⟩, Option.bind_some, if_pos hp, wb_ld ⟨by omega, by omega⟩, Option.bind_some, e, Option.bind_some, hn]
theorem wt_w9_4 {T : sw_T} {L : Int} (t : wt_cl T L) : ∀ (k : Nat) (p : Int), 0 ≤ p → L - p ≤ k → p ≤ L → ∀ m, k < m → w9_4 T m (-1) p = some (-1) := by
  obtain ⟨t1, t2, t3⟩ := t
  intro k
  induction k with
  | zero =>
    intro p hp hk hl m hm
    obtain ⟨m, rfl⟩ : ∃ q, m = q + 1 := ⟨m - 1, by omega⟩
    rw [w9_4, t1, wb_r2 ⟨by omega, by omega⟩ ⟨by omega, by omega⟩, Option.bind_some, if_neg (by omega)]
  | succ k ih =>
    intro p hp hk hl m hm
    obtain ⟨m, rfl⟩ : ∃ q, m = q + 1 := ⟨m - 1, by omega⟩
    rw [w9_4, t1, wb_r2 ⟨by omega, by omega⟩ ⟨by omega, by omega⟩, Option.bind_some]
    by_cases h : p < L
    · have hx := t3 p ⟨hp, h⟩
      have e := wt_w12 (T := T) (s := -1) (x := T 220 p) (wb_rgd (by decide)) ⟨by omega, by omega⟩
      have e2 : wt_nx (-1) (T 220 p) = -1 := rfl
      rw [if_pos h, wb_ld ⟨hp, by omega⟩, Option.bind_some, e, Option.bind_some, e2]
      exact ih (p + 1) (by omega) (by omega) (by omega) m (by omega)
    · rw [if_neg h]
/-- the walks end at the text's end -/
theorem wt_at_end {T : sw_T} {L s : Int} (t : wt_cl T L) (h : wt_at T s L) : w8 T = some L ∧ (wb_rg s → w9 T = some (if s = 4 ∨ s = 8 then 1 else 0)) := by
  obtain ⟨q, hq, hm⟩ := h
  obtain ⟨t1, t2, t3⟩ := t
  obtain ⟨g1, g2⟩ := hm (sw_N - q - 1 + 1)
  have hN : sw_N - q - 1 + 1 + q = sw_N := by unfold sw_N; omega
  rw [hN] at g1 g2
  constructor
  · unfold w8
    rw [g1, w8_4, t1, wb_r2 ⟨by omega, by omega⟩ ⟨by omega, by omega⟩, Option.bind_some, if_neg (by omega), Option.bind_some, wb_eli]
  · intro hs
    unfold w9
    rw [g2, w9_4, t1, wb_r2 ⟨by omega, by omega⟩ ⟨by omega, by omega⟩, Option.bind_some, if_neg (by omega), Option.bind_some, wb_r2 hs (by decide), Option.bind_some]
    by_cases h4 : s = 4
    · rw [if_pos h4, if_pos (.inl h4)]
    · rw [if_neg h4, wb_r2 hs (by decide), Option.bind_some]
      by_cases h8 : s = 8
      · rw [if_pos h8, if_pos (.inr h8)]
      · rw [if_neg h8, if_neg (by omega)]
/-- the walks meet an error -/
theorem wt_at_err {T : sw_T} {L s p : Int} (t : wt_cl T L) (h : wt_at T s p) (hs : wb_rg s) (hp : p < L) (hn : wt_nx s (T 220 p) = -1) : w8 T = some p ∧ w9 T = some 0 := by
  obtain ⟨q, hq, hm⟩ := h
  obtain ⟨t1, t2, t3⟩ := id t
  have hx := t3 p ⟨by omega, hp⟩
  have e := wt_w12 (T := T) (s := s) (x := T 220 p) hs ⟨by omega, by omega⟩
  obtain ⟨g1, g2⟩ := hm (sw_N - q - 1 + 1)
  have hN : sw_N - q - 1 + 1 + q = sw_N := by unfold sw_N; omega
  rw [hN] at g1 g2
  constructor
  · unfold w8
    rw [g1, w8_4, t1, wb_r2 ⟨by omega, by omega⟩ ⟨by omega, by omega⟩, Option.bind_some, if_pos hp, wb_ld ⟨by omega, by omega⟩, Option.bind_some, e, Option.bind_some, hn, wb_r2 (by decide) (by decide), Option.bind_some, if_pos rfl, Option.bind_some, wb_elr]
  · unfold w9
    rw [g2, w9_4, t1, wb_r2 ⟨by omega, by omega⟩ ⟨by omega, by omega⟩, Option.bind_some, if_pos hp, wb_ld ⟨by omega, by omega⟩, Option.bind_some, e, Option.bind_some, hn, wt_w9_4 t 60 (p + 1) (by omega) (by omega) (by omega) _ (by unfold sw_N; omega), Option.bind_some, wb_r2 (by decide) (by decide), Option.bind_some, if_neg (by decide), wb_r2 (by decide) (by decide), Option.bind_some, if_neg (by decide)]
