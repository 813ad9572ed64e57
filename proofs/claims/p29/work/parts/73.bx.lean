/-! ===== copies of rooms ===== -/
/-- what has been copied to b from the room that was at c -/
def wb_cq (T : sw_T) (b c : Nat) (D : Nat → Int → Prop) (X : sw_T) : Prop := wb_fc b T X ∧ ∀ (t : Nat) (i : Int), t < 24 → D t i → X (b + t) i = T (c + t) i
theorem wb_cq_rd {T X : sw_T} {b c t : Nat} {D : Nat → Int → Prop} (h : wb_cq T b c D X) (hbc : b + 24 ≤ c ∨ c + 24 ≤ b) (ht : t < 24) : X (c + t) = T (c + t) := h.1 (c + t) (by omega)
theorem wb_cq_up {T X : sw_T} {b c : Nat} {D : Nat → Int → Prop} (t : Nat) (i : Int) (h : wb_cq T b c D X) (hbc : b + 24 ≤ c ∨ c + 24 ≤ b) (ht : t < 24) (D' : Nat → Int → Prop) (hD : ∀ (t' : Nat) (i' : Int), D' t' i' → D t' i' ∨ (t' = t ∧ i' = i)) : wb_cq T b c D' (sw_up X (b + t) i (X (c + t) i)) := by
  refine ⟨h.1.up ht, fun t' i' ht' hd => ?_⟩
  rw [wb_rdu]
  by_cases e1 : b + t' = b + t
  · rw [if_pos e1]
    obtain rfl : t' = t := by omega
    by_cases e3 : i' = i
    · rw [if_pos e3, e3, wb_cq_rd h hbc ht]
    · rw [if_neg e3]
      rcases hD _ _ hd with q | ⟨-, q⟩
      · exact h.2 _ _ ht' q
      · exact absurd q e3
  · rw [if_neg e1]
    rcases hD _ _ hd with q | ⟨q, -⟩
    · exact h.2 _ _ ht' q
    · exact absurd (by rw [q]) e1
theorem wb_cq_ub {T X : sw_T} {b c : Nat} {B D : Nat → Int → Prop} (t : Nat) (i : Int) (h : wb_cq T b c (fun t i => B t i ∨ D t i) X) (hbc : b + 24 ≤ c ∨ c + 24 ≤ b) (ht : t < 24) (D' : Nat → Int → Prop) (hD : ∀ (t' : Nat) (i' : Int), D' t' i' → D t' i' ∨ (t' = t ∧ i' = i)) : wb_cq T b c (fun t i => B t i ∨ D' t i) (sw_up X (b + t) i (X (c + t) i)) := wb_cq_up t i h hbc ht _ (fun t' i' hd => hd.elim (fun q => .inl (.inl q)) (fun q => (hD t' i' q).elim (fun r => .inl (.inr r)) .inr))
theorem wb_cq_mb {T X : sw_T} {b c : Nat} {B D D' : Nat → Int → Prop} (h : wb_cq T b c (fun t i => B t i ∨ D t i) X) (hD : ∀ (t' : Nat) (i' : Int), D' t' i' → D t' i') : wb_cq T b c (fun t i => B t i ∨ D' t i) X := ⟨h.1, fun t i ht hd => h.2 t i ht (hd.elim .inl (fun q => .inr (hD t i q)))⟩
theorem wb_cq_nb {T X : sw_T} {b c : Nat} {B D : Nat → Int → Prop} (h : wb_cq T b c B X) (hD : ∀ (t' : Nat) (i' : Int), ¬ D t' i') : wb_cq T b c (fun t i => B t i ∨ D t i) X := ⟨h.1, fun t i ht hd => h.2 t i ht (hd.elim id (fun q => absurd q (hD t i)))⟩
abbrev wb_e0 (t : Nat) (i : Int) : Prop := t = 0 ∧ 0 ≤ i ∧ i < 4
abbrev wb_f0 (l : Int) (t : Nat) (i : Int) : Prop := t = 1 ∧ 0 ≤ i ∧ i < l
abbrev wb_f1 (l : Int) (q : Nat) (t : Nat) (i : Int) : Prop := (2 ≤ t ∧ t < 10 ∧ 0 ≤ i ∧ i < l) ∨ (2 ≤ t ∧ t < q ∧ i = l)
abbrev wb_f2 (h l p : Int) (t : Nat) (i : Int) : Prop := (t = 11 ∧ 0 ≤ i ∧ i < h) ∨ (13 ≤ t ∧ (t : Int) < 13 + l ∧ 0 ≤ i ∧ i < 16) ∨ ((t : Int) = 13 + l ∧ 0 ≤ i ∧ i < p)
abbrev wb_f3 (l : Int) (q : Nat) (t : Nat) (i : Int) : Prop := (t = 20 ∧ i = 0) ∨ (21 ≤ t ∧ t < 24 ∧ 0 ≤ i ∧ i < l) ∨ (21 ≤ t ∧ t < q ∧ i = l)
abbrev wb_B1 (l : Int) (t : Nat) (i : Int) : Prop := wb_e0 t i ∨ wb_f0 l t i
abbrev wb_B2 (l : Int) (q : Nat) (t : Nat) (i : Int) : Prop := wb_B1 3 t i ∨ wb_f1 l q t i
abbrev wb_B3 (h l p : Int) (t : Nat) (i : Int) : Prop := wb_B2 7 2 t i ∨ wb_f2 h l p t i
abbrev wb_B4 (l : Int) (q : Nat) (t : Nat) (i : Int) : Prop := wb_B3 7 7 0 t i ∨ wb_f3 l q t i
theorem wb_c34 {T X : sw_T} {b c : Nat} (hbc : b + 24 ≤ c ∨ c + 24 ≤ b) (h : wb_cq T b c wb_e0 X) : ∃ X1, w24_34 b c sw_N X 0 = some X1 ∧ wb_cq T b c (wb_B1 3) X1 := by
  refine wb_loop (f := w24_34 b c) (n := 3) (fun l Y => wb_cq T b c (wb_B1 l) Y) ?_ ?_ 3 0 X (by decide) (by decide) (wb_cq_nb h (fun t i => by omega)) sw_N (by decide)
  · intro m Y l hy hl h3
    refine ⟨sw_up Y (b + 1) l (Y (c + 1) l), ?_, wb_cq_ub (B := wb_e0) (D := wb_f0 l) 1 l hy hbc (by decide) (wb_f0 (l + 1)) (fun t i h => by omega)⟩
    rw [w24_34, wb_r2 ⟨by omega, by omega⟩ (by decide), Option.bind_some, if_pos h3, wb_ld ⟨hl, by omega⟩, Option.bind_some, wb_st ⟨hl, by omega⟩, Option.bind_some]
  · intro m Y hy
    rw [w24_34, wb_r2 (by decide) (by decide), Option.bind_some, if_neg (by decide)]
theorem wb_c59 {T X : sw_T} {b c : Nat} (hbc : b + 24 ≤ c ∨ c + 24 ≤ b) (ha : ∀ w, 0 ≤ w ∧ w < 7 → T (c + 5) w = 0 ∨ T (c + 5) w = 1) (h : wb_cq T b c (wb_B1 3) X) : ∃ X1, w24_59 b c sw_N X 0 = some X1 ∧ wb_cq T b c (wb_B2 7 2) X1 := by
  refine wb_loop (f := w24_59 b c) (n := 7) (fun l Y => wb_cq T b c (wb_B2 l 2) Y) ?_ ?_ 7 0 X (by decide) (by decide) (wb_cq_nb h (fun t i => by omega)) sw_N (by decide)
  · intro m Y l hy hl h7
    have hj : 0 ≤ l ∧ l < ((7 : Nat) : Int) := ⟨hl, by omega⟩
    have y2 := wb_cq_ub (B := wb_B1 3) 2 l hy hbc (by decide) (wb_f1 l 3) (fun t i h => by omega)
    have y3 := wb_cq_ub (B := wb_B1 3) 3 l y2 hbc (by decide) (wb_f1 l 4) (fun t i h => by omega)
    have y4 := wb_cq_ub (B := wb_B1 3) 4 l y3 hbc (by decide) (wb_f1 l 5) (fun t i h => by omega)
    have y5 := wb_cq_ub (B := wb_B1 3) 5 l y4 hbc (by decide) (wb_f1 l 6) (fun t i h => by omega)
    have y6 := wb_cq_ub (B := wb_B1 3) 6 l y5 hbc (by decide) (wb_f1 l 7) (fun t i h => by omega)
    have y7 := wb_cq_ub (B := wb_B1 3) 7 l y6 hbc (by decide) (wb_f1 l 8) (fun t i h => by omega)
    have y8 := wb_cq_ub (B := wb_B1 3) 8 l y7 hbc (by decide) (wb_f1 l 9) (fun t i h => by omega)
    have y9 := wb_cq_ub (B := wb_B1 3) 9 l y8 hbc (by decide) (wb_f1 (l + 1) 2) (fun t i h => by omega)
    refine ⟨_, ?_, y9⟩
    rw [w24_59, wb_r2 ⟨by omega, by omega⟩ (by decide), Option.bind_some, if_pos h7, wb_ld hj, Option.bind_some, wb_st hj, Option.bind_some, wb_ld hj, Option.bind_some, wb_st hj, Option.bind_some, wb_ld hj, Option.bind_some, wb_st hj, Option.bind_some, wb_ld hj, Option.bind_some, wb_sb hj (by rw [wb_cq_rd y4 hbc (by decide)]; exact ha l ⟨hl, h7⟩), Option.bind_some, wb_ld hj, Option.bind_some, wb_st hj, Option.bind_some, wb_ld hj, Option.bind_some, wb_st hj, Option.bind_some, wb_ld hj, Option.bind_some, wb_st hj, Option.bind_some, wb_ld hj, Option.bind_some, wb_st hj, Option.bind_some]
  · intro m Y hy
    rw [w24_59, wb_r2 (by decide) (by decide), Option.bind_some, if_neg (by decide)]
theorem wb_c17_22 {T X : sw_T} {b c : Nat} {l : Int} (hbc : b + 24 ≤ c ∨ c + 24 ≤ b) (hl : 0 ≤ l ∧ l < 7) (h : wb_cq T b c (wb_B3 (l + 1) l 0) X) : ∃ X1, w17_22 b c l sw_N X 0 = some X1 ∧ wb_cq T b c (wb_B3 (l + 1) (l + 1) 0) X1 := by
  have key : ∃ X1, w17_22 b c l sw_N X 0 = some X1 ∧ wb_cq T b c (wb_B3 (l + 1) l 16) X1 := by
    refine wb_loop (f := w17_22 b c l) (n := 16) (fun p Y => wb_cq T b c (wb_B3 (l + 1) l p) Y) ?_ ?_ 16 0 X (by decide) (by decide) h sw_N (by decide)
    · intro m Y p hy hp h16
      refine ⟨sw_up Y (b + (13 + l.toNat)) p (Y (c + (13 + l.toNat)) p), ?_, wb_cq_ub (B := wb_B2 7 2) (D := wb_f2 (l + 1) l p) (13 + l.toNat) p hy hbc (by omega) (wb_f2 (l + 1) l (p + 1)) (fun t i h => by omega)⟩
      rw [w17_22, wb_r2 ⟨by omega, by omega⟩ (by decide), Option.bind_some, if_pos h16, wb_rw ⟨hl.1, by omega⟩, Option.bind_some, Option.bind_some, wb_ld ⟨hp, by omega⟩, Option.bind_some, wb_st ⟨hp, by omega⟩, Option.bind_some, show b + 12 + 1 + l.toNat = b + (13 + l.toNat) by omega, show c + 12 + 1 + l.toNat = c + (13 + l.toNat) by omega]
    · intro m Y hy
      rw [w17_22, wb_r2 (by decide) (by decide), Option.bind_some, if_neg (by decide)]
  obtain ⟨X1, e, hx⟩ := key
  exact ⟨X1, e, wb_cq_mb (B := wb_B2 7 2) hx (fun t i h => by omega)⟩
theorem wb_c17 {T X : sw_T} {b c : Nat} (hbc : b + 24 ≤ c ∨ c + 24 ≤ b) (h : wb_cq T b c (wb_B2 7 2) X) : ∃ X1, w17 b c X = some X1 ∧ wb_cq T b c (wb_B3 7 7 0) X1 := by
  have key : ∃ X1, w17_2 b c sw_N X 0 = some X1 ∧ wb_cq T b c (wb_B3 7 7 0) X1 := by
    refine wb_loop (f := w17_2 b c) (n := 7) (fun l Y => wb_cq T b c (wb_B3 l l 0) Y) ?_ ?_ 7 0 X (by decide) (by decide) (wb_cq_nb h (fun t i => by omega)) sw_N (by decide)
    · intro m Y l hy hl h7
      have hj : 0 ≤ l ∧ l < ((7 : Nat) : Int) := ⟨hl, by omega⟩
      have y1 := wb_cq_ub (B := wb_B2 7 2) (D := wb_f2 l l 0) 11 l hy hbc (by decide) (wb_f2 (l + 1) l 0) (fun t i h => by omega)
      obtain ⟨Y2, e, y2⟩ := wb_c17_22 hbc ⟨hl, h7⟩ y1
      refine ⟨Y2, ?_, y2⟩
      rw [w17_2, wb_r2 ⟨by omega, by omega⟩ (by decide), Option.bind_some, if_pos h7, wb_ld hj, Option.bind_some, wb_st hj, Option.bind_some, e, Option.bind_some]
    · intro m Y hy
      rw [w17_2, wb_r2 (by decide) (by decide), Option.bind_some, if_neg (by decide)]
  obtain ⟨X1, e, hx⟩ := key
  refine ⟨X1, ?_, hx⟩
  unfold w17
  rw [e, Option.bind_some]
theorem wb_c50 {T X : sw_T} {b c : Nat} (hbc : b + 24 ≤ c ∨ c + 24 ≤ b) (hc : 0 ≤ T (c + 20) 0 ∧ T (c + 20) 0 ≤ 120) (h : wb_cq T b c (wb_B3 7 7 0) X) : ∃ X1, w50 b c X = some X1 ∧ wb_cq T b c (wb_B4 (T (c + 20) 0) 21) X1 := by
  have s0 := wb_cq_ub (B := wb_B3 7 7 0) (D := fun _ _ => False) 20 0 (wb_cq_nb h (fun _ _ q => q)) hbc (by decide) (wb_f3 0 21) (fun t i h => by omega)
  unfold w50
  rw [wb_pf, Option.bind_some]
  generalize sw_up X (b + 20) 0 (X (c + 20) 0) = X0 at s0 ⊢
  have key : ∃ X1, w50_10 b c sw_N X0 0 = some X1 ∧ wb_cq T b c (wb_B4 (T (c + 20) 0) 21) X1 := by
    refine wb_loop (f := w50_10 b c) (n := T (c + 20) 0) (fun l Y => wb_cq T b c (wb_B4 l 21) Y) ?_ ?_ (T (c + 20) 0).toNat 0 X0 (by decide) (by omega) s0 sw_N (by unfold sw_N; omega)
    · intro m Y l hy hl h7
      have hj : 0 ≤ l ∧ l < ((120 : Nat) : Int) := ⟨hl, by omega⟩
      have hn : Y (b + 20) 0 = T (c + 20) 0 := hy.2 20 0 (by decide) (.inr (.inl ⟨rfl, rfl⟩))
      have y1 := wb_cq_ub (B := wb_B3 7 7 0) 21 l hy hbc (by decide) (wb_f3 l 22) (fun t i h => by omega)
      have y2 := wb_cq_ub (B := wb_B3 7 7 0) 22 l y1 hbc (by decide) (wb_f3 l 23) (fun t i h => by omega)
      have y3 := wb_cq_ub (B := wb_B3 7 7 0) 23 l y2 hbc (by decide) (wb_f3 (l + 1) 21) (fun t i h => by omega)
      refine ⟨_, ?_, y3⟩
      rw [w50_10, hn, wb_r2 ⟨by omega, by omega⟩ ⟨by omega, by omega⟩, Option.bind_some, if_pos h7, wb_r2 ⟨by omega, by omega⟩ (by decide), Option.bind_some, if_pos (by omega), wb_ld hj, Option.bind_some, wb_st hj, Option.bind_some, wb_ld hj, Option.bind_some, wb_st hj, Option.bind_some, wb_ld hj, Option.bind_some, wb_st hj, Option.bind_some]
    · intro m Y hy
      have hn : Y (b + 20) 0 = T (c + 20) 0 := hy.2 20 0 (by decide) (.inr (.inl ⟨rfl, rfl⟩))
      rw [w50_10, hn, wb_r2 ⟨by omega, by omega⟩ ⟨by omega, by omega⟩, Option.bind_some, if_neg (by omega)]
  obtain ⟨X1, e, hx⟩ := key
  refine ⟨X1, ?_, hx⟩
  rw [e, Option.bind_some]
/-- how many of a table's numbers mean something -/
def wb_dm (c : Int) (t : Nat) : Int := if t = 0 then 4 else if t = 1 then 3 else if t < 10 then 7 else if t = 11 then 7 else if t < 13 then 0 else if t < 20 then 16 else if t = 20 then 1 else c
/-- the same room elsewhere -/
def wb_eq (T : sw_T) (b : Nat) (T' : sw_T) (c : Nat) : Prop := ∀ (t : Nat), t < 24 → ∀ i, 0 ≤ i → i < wb_dm (T (b + 20) 0) t → T (b + t) i = T' (c + t) i
theorem wb_copy {T : sw_T} {b c : Nat} {N : Int} (I : wb_iv T c N) (hbc : b + 24 ≤ c ∨ c + 24 ≤ b) : ∃ T1, w24 b c T = some T1 ∧ wb_fc b T T1 ∧ wb_eq T c T1 b := by
  have hc := I.2.1.2.2.2.2
  have s0 : wb_cq T b c (fun t i => t = 0 ∧ 0 ≤ i ∧ i < 1) (sw_up T b 0 (T c 0)) := wb_cq_up (D := fun _ _ => False) 0 0 ⟨wb_fc.rf, fun _ _ _ h => h.elim⟩ hbc (by decide) _ (fun t i h => by omega)
  unfold w24
  rw [wb_pf, Option.bind_some]
  generalize sw_up T b 0 (T c 0) = X0 at s0 ⊢
  have s1 : wb_cq T b c (fun t i => t = 0 ∧ 0 ≤ i ∧ i < 2) (sw_up X0 b 1 (X0 c 1)) := wb_cq_up 0 1 s0 hbc (by decide) _ (fun t i h => by omega)
  rw [wb_pf, Option.bind_some]
  generalize sw_up X0 b 1 (X0 c 1) = X1 at s1 ⊢
  have s2 : wb_cq T b c (fun t i => t = 0 ∧ 0 ≤ i ∧ i < 3) (sw_up X1 b 2 (X1 c 2)) := wb_cq_up 0 2 s1 hbc (by decide) _ (fun t i h => by omega)
  rw [wb_pf, Option.bind_some]
  generalize sw_up X1 b 2 (X1 c 2) = X2 at s2 ⊢
  have s3 : wb_cq T b c wb_e0 (sw_up X2 b 3 (X2 c 3)) := wb_cq_up 0 3 s2 hbc (by decide) _ (fun t i h => by omega)
  rw [wb_pf, Option.bind_some]
  generalize sw_up X2 b 3 (X2 c 3) = X3 at s3 ⊢
  obtain ⟨X4, e4, s4⟩ := wb_c34 hbc s3
  obtain ⟨X5, e5, s5⟩ := wb_c59 hbc (fun w hw => (I.2.2.1 w hw).2.2.2.1) s4
  obtain ⟨X6, e6, s6⟩ := wb_c17 hbc s5
  obtain ⟨X7, e7, s7⟩ := wb_c50 hbc hc s6
  refine ⟨X7, ?_, s7.1, fun t ht i hi hd => (s7.2 t i ht ?_).symm⟩
  · rw [e4, Option.bind_some, e5, Option.bind_some, e6, Option.bind_some, e7, Option.bind_some]
  · show wb_B4 (T (c + 20) 0) 21 t i
    unfold wb_dm at hd
    (repeat' split at hd) <;> first | exact Or.inl (Or.inl (Or.inl (Or.inl (by omega)))) | exact Or.inl (Or.inl (Or.inl (Or.inr (by omega)))) | exact Or.inl (Or.inl (Or.inr (by omega))) | exact Or.inl (Or.inr (by omega)) | exact Or.inr (by omega) | omega
