/-! ===== sleepers, full hands ===== -/
theorem wb_w47_4 {T : sw_T} {b : Nat} (h1 : 2 ≤ T b 1 ∧ T b 1 ≤ 7) (ha : ∀ w, 0 ≤ w ∧ w < 7 → T (b + 5) w = 0 ∨ T (b + 5) w = 1) : ∀ (k : Nat) (s l : Int), 0 ≤ l → T b 1 - l ≤ k → l ≤ 7 → ∀ m, k < m → w47_4 b T m s l = some (s + wb_sg (T (b + 5)) (T b 1) k l) := by
  intro k
  induction k with
  | zero =>
    intro s l hl hk h7 m hm
    obtain ⟨m, rfl⟩ : ∃ q, m = q + 1 := ⟨m - 1, by omega⟩
    unfold w47_4 wb_sg
    rw [wb_r2 (a := l) (b := T b 1) ⟨by omega, by omega⟩ ⟨by omega, by omega⟩, Option.bind_some, if_neg (by omega), Int.add_zero]
  | succ k ih =>
    intro s l hl hk h7 m hm
    obtain ⟨m, rfl⟩ : ∃ q, m = q + 1 := ⟨m - 1, by omega⟩
    unfold w47_4 wb_sg
    rw [wb_r2 (a := l) (b := T b 1) ⟨by omega, by omega⟩ ⟨by omega, by omega⟩, Option.bind_some]
    by_cases h2 : l < T b 1
    · have hal := ha l ⟨hl, by omega⟩
      rw [if_pos h2, if_pos h2, wb_r2 (a := l) (b := 7) ⟨by omega, by omega⟩ (by decide), Option.bind_some, if_pos (by omega), wb_ld ⟨hl, by omega⟩, Option.bind_some, wb_r1 (a := T (b + 5) l) ⟨by omega, by omega⟩, Option.bind_some]
      by_cases h3 : T (b + 5) l = 0
      · rw [if_pos h3, h3, ih s (l + 1) (by omega) (by omega) (by omega) m (by omega), Int.zero_add]
      · rw [if_neg h3, show T (b + 5) l = 1 by omega, ih (s + 1) (l + 1) (by omega) (by omega) (by omega) m (by omega), Int.add_assoc]
    · rw [if_neg h2, if_neg h2, Int.add_zero]
theorem wb_w47 {T : sw_T} {b : Nat} {N : Int} (I : wb_iv T b N) : w47 b T = some (wb_s7 (T (b + 5))) := by
  have h1 : 2 ≤ T b 1 ∧ T b 1 ≤ 7 := I.2.1.2.1
  unfold w47
  rw [wb_w47_4 h1 (fun w hw => (I.2.2.1 w hw).2.2.2.1) 7 0 0 (by decide) (by omega) (by decide) sw_N (by decide), Option.bind_some, wb_sg_s7 h1 (fun w hw => (I.2.2.2.1 w hw).2.2.1), Int.zero_add]
theorem wb_w46_4 {T : sw_T} {b : Nat} {N : Int} (I : wb_iv T b N) : ∀ (k : Nat) (s l : Int), 0 ≤ l → T b 1 - l ≤ k → l ≤ 7 → ∀ m, k < m → w46_4 b T m s l = some (s + wb_sg (wb_hd T b) (T b 1) k l) := by
  have h1 : 2 ≤ T b 1 ∧ T b 1 ≤ 7 := I.2.1.2.1
  have hc := I.2.1.2.2.2.2
  intro k
  induction k with
  | zero =>
    intro s l hl hk h7 m hm
    obtain ⟨m, rfl⟩ : ∃ q, m = q + 1 := ⟨m - 1, by omega⟩
    unfold w46_4 wb_sg
    rw [wb_r2 (a := l) (b := T b 1) ⟨by omega, by omega⟩ ⟨by omega, by omega⟩, Option.bind_some, if_neg (by omega), Int.add_zero]
  | succ k ih =>
    intro s l hl hk h7 m hm
    obtain ⟨m, rfl⟩ : ∃ q, m = q + 1 := ⟨m - 1, by omega⟩
    unfold w46_4 wb_sg
    rw [wb_r2 (a := l) (b := T b 1) ⟨by omega, by omega⟩ ⟨by omega, by omega⟩, Option.bind_some]
    by_cases h2 : l < T b 1
    · have hal := (I.2.2.1 l ⟨hl, by omega⟩).2.1
      rw [if_pos h2, if_pos h2, wb_r2 (a := l) (b := 7) ⟨by omega, by omega⟩ (by decide), Option.bind_some, if_pos (by omega), wb_ld ⟨hl, by omega⟩, Option.bind_some, wb_r2 (a := T (b + 3) l) (b := -1) ⟨by omega, by omega⟩ (by decide), Option.bind_some]
      by_cases h3 : T (b + 3) l = -1
      · have e : wb_hd T b l = 0 := if_pos h3
        rw [if_pos h3, e, ih s (l + 1) (by omega) (by omega) (by omega) m (by omega), Int.zero_add]
      · have e : wb_hd T b l = 1 := if_neg h3
        rw [if_neg h3, e, ih (s + 1) (l + 1) (by omega) (by omega) (by omega) m (by omega), Int.add_assoc]
    · rw [if_neg h2, if_neg h2, Int.add_zero]
theorem wb_w46 {T : sw_T} {b : Nat} {N : Int} (I : wb_iv T b N) : w46 b T = some (wb_s7 (wb_hd T b)) := by
  have h1 : 2 ≤ T b 1 ∧ T b 1 ≤ 7 := I.2.1.2.1
  unfold w46
  rw [wb_w46_4 I 7 0 0 (by decide) (by omega) (by decide) sw_N (by decide), Option.bind_some, wb_sg_s7 (f := wb_hd T b) h1 (fun w hw => by unfold wb_hd; exact if_pos (I.2.2.2.1 w hw).1), Int.zero_add]
