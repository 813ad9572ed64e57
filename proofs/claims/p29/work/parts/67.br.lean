/-! ===== sums and counts, as both look them up ===== -/
/-- the sum over the places from l below n -/
def wb_sg (f : Int → Int) (n : Int) : Nat → Int → Int
  | 0, _ => 0
  | k + 1, l => if l < n then f l + wb_sg f n k (l + 1) else 0
theorem wb_sg_s7 {f : Int → Int} {n : Int} (h1 : 2 ≤ n ∧ n ≤ 7) (h0 : ∀ w, n ≤ w ∧ w < 7 → f w = 0) : wb_sg f n 7 0 = wb_s7 f := by
  have hn : n = 2 ∨ n = 3 ∨ n = 4 ∨ n = 5 ∨ n = 6 ∨ n = 7 := by omega
  have q2 := h0 2
  have q3 := h0 3
  have q4 := h0 4
  have q5 := h0 5
  have q6 := h0 6
  rcases hn with rfl | rfl | rfl | rfl | rfl | rfl <;> simp [wb_sg, wb_s7] at * <;> omega
theorem wb_sg_cg {f g : Int → Int} {n : Int} (h : ∀ w, 0 ≤ w ∧ w < n → f w = g w) : ∀ (k : Nat) (l : Int), 0 ≤ l → wb_sg f n k l = wb_sg g n k l := by
  intro k
  induction k with
  | zero => intro l _; rfl
  | succ k ih =>
    intro l hl
    unfold wb_sg
    by_cases h1 : l < n
    · rw [if_pos h1, if_pos h1, h l ⟨hl, h1⟩, ih (l + 1) (by omega)]
    · rw [if_neg h1, if_neg h1]
theorem wb_w48_8 {T : sw_T} {b r : Nat} (h1 : 2 ≤ T b 1 ∧ T b 1 ≤ 7) : ∀ (k : Nat) (s l : Int), 0 ≤ l → T b 1 - l ≤ k → l ≤ 7 → ∀ m, k < m → w48_8 b r T m s l = some (s + wb_sg (T r) (T b 1) k l) := by
  intro k
  induction k with
  | zero =>
    intro s l hl hk h7 m hm
    obtain ⟨m, rfl⟩ : ∃ q, m = q + 1 := ⟨m - 1, by omega⟩
    unfold w48_8 wb_sg
    rw [wb_r2 (a := l) (b := T b 1) ⟨by omega, by omega⟩ ⟨by omega, by omega⟩, Option.bind_some, if_neg (by omega), Int.add_zero]
  | succ k ih =>
    intro s l hl hk h7 m hm
    obtain ⟨m, rfl⟩ : ∃ q, m = q + 1 := ⟨m - 1, by omega⟩
    unfold w48_8 wb_sg
    rw [wb_r2 (a := l) (b := T b 1) ⟨by omega, by omega⟩ ⟨by omega, by omega⟩, Option.bind_some]
    by_cases h2 : l < T b 1
    · rw [if_pos h2, if_pos h2, wb_r2 ⟨by omega, by omega⟩ (by decide), Option.bind_some, if_pos (by omega), wb_ld ⟨hl, by omega⟩, Option.bind_some, ih (s + T r l) (l + 1) (by omega) (by omega) (by omega) m (by omega), Int.add_assoc]
    · rw [if_neg h2, if_neg h2, Int.add_zero]
theorem wb_w48 {T : sw_T} {b r : Nat} (h1 : 2 ≤ T b 1 ∧ T b 1 ≤ 7) (h0 : ∀ w, T b 1 ≤ w ∧ w < 7 → T r w = 0) : w48 b r T = some (wb_s7 (T r)) := by
  unfold w48
  rw [wb_w48_8 h1 7 0 0 (by decide) (by omega) (by decide) sw_N (by decide), Option.bind_some, wb_sg_s7 h1 h0, Int.zero_add]
theorem wb_w121_4 {T : sw_T} {n q : Int} (hn : T 222 4 = n) (h1 : 2 ≤ n ∧ n ≤ 7) (hq : 0 ≤ q ∧ q < 9) : ∀ (k : Nat) (s l : Int), 0 ≤ l → n - l ≤ k → l ≤ 7 → ∀ m, k < m → w121_4 T q m s l = some (s + wb_sg (fun w => T 222 (8 + 9 * w + q)) n k l) := by
  intro k
  induction k with
  | zero =>
    intro s l hl hk h7 m hm
    obtain ⟨m, rfl⟩ : ∃ q, m = q + 1 := ⟨m - 1, by omega⟩
    unfold w121_4 wb_sg
    rw [wb_ld (by decide), Option.bind_some, hn, wb_r2 (a := l) (b := n) ⟨by omega, by omega⟩ ⟨by omega, by omega⟩, Option.bind_some, if_neg (by omega), Int.add_zero]
  | succ k ih =>
    intro s l hl hk h7 m hm
    obtain ⟨m, rfl⟩ : ∃ q, m = q + 1 := ⟨m - 1, by omega⟩
    unfold w121_4 wb_sg
    rw [wb_ld (by decide), Option.bind_some, hn, wb_r2 (a := l) (b := n) ⟨by omega, by omega⟩ ⟨by omega, by omega⟩, Option.bind_some]
    by_cases h2 : l < n
    · rw [if_pos h2, if_pos h2, wb_w98 ⟨hl, by omega⟩ hq, Option.bind_some, ih _ (l + 1) (by omega) (by omega) (by omega) m (by omega), Int.add_assoc]
    · rw [if_neg h2, if_neg h2, Int.add_zero]
