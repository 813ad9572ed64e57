/-! ===== the choice of a pile ===== -/
abbrev wb_cn (T : sw_T) (b : Nat) (o : Int) : Prop := 2 ≤ T (b + 11) o ∨ (T (b + 11) o = 1 ∧ (T (b + 5) o ≠ 0 ∨ T (b + 3) o ≠ -1))
def wb_mr (T : sw_T) (b : Nat) (w o : Int) : Int := if T (b + 1) 1 = 0 then T (b + 11) o else if T (b + 1) 1 = 1 then (if w < o then T b 1 - (o - w) else w - o) else T (b + 21) (wb_pi T b o 0)
def wb_ch (T : sw_T) (b : Nat) (w : Int) : Nat → Int → Int → Int
  | 0, best, _ => best
  | m + 1, best, o => if o < T b 1 then (if o = w ∨ ¬ wb_cn T b o then wb_ch T b w m best (o + 1) else if best = -1 ∨ wb_mr T b w best < wb_mr T b w o then wb_ch T b w m o (o + 1) else wb_ch T b w m best (o + 1)) else best
theorem wb_w39 {T : sw_T} {b : Nat} {N o : Int} (I : wb_iv T b N) (ho : 0 ≤ o ∧ o < T b 1) : (wb_cn T b o → w39 b T o = some 1) ∧ (¬ wb_cn T b o → w39 b T o = some 0) := by
  obtain ⟨-, ⟨-, h1, -, -, hc⟩, hse, -⟩ := id I
  have ho7 : 0 ≤ o ∧ o < 7 := ⟨ho.1, by omega⟩
  obtain ⟨-, hha, -, has, -, -, -, h16⟩ := hse o ho7
  have e : w39 b T o = (if T (b + 11) o < 2 then (if T (b + 11) o = 1 then (if T (b + 5) o = 0 then (if T (b + 3) o = -1 then some 0 else some 1) else some 1) else some 0) else some 1) := by
    unfold w39
    rw [wb_w25y h1 ho, Option.bind_some, wb_r1 (by decide), Option.bind_some, if_neg (by decide), wb_w18 ho7, Option.bind_some, wb_r2 ⟨by omega, by omega⟩ (by decide), Option.bind_some]
    by_cases h2 : T (b + 11) o < 2
    · rw [if_pos h2, if_pos h2, wb_r2 ⟨by omega, by omega⟩ (by decide), Option.bind_some]
      by_cases h3 : T (b + 11) o = 1
      · rw [if_pos h3, if_pos h3, wb_ld ho7, Option.bind_some, wb_r1 ⟨by omega, by omega⟩, Option.bind_some]
        by_cases h4 : T (b + 5) o = 0
        · rw [if_pos h4, if_pos h4, wb_ld ho7, Option.bind_some, wb_r2 ⟨by omega, by omega⟩ (by decide), Option.bind_some]
        · rw [if_neg h4, if_neg h4]
      · rw [if_neg h3, if_neg h3]
    · rw [if_neg h2, if_neg h2]
  rw [e]
  unfold wb_cn
  constructor
  · intro h
    split
    · rw [if_pos (by omega)]
      split
      · rw [if_neg (by omega)]
      · rfl
    · rfl
  · intro h
    rw [if_pos (by omega)]
    split
    · rw [if_pos (by omega), if_pos (by omega)]
    · rfl
theorem wb_w113 {T Tm : sw_T} {b : Nat} {N w o : Int} (I : wb_iv T b N) (R : wb_rp T b (Tm 222)) (hw : 0 ≤ w ∧ w < T b 1) (ho : 0 ≤ o ∧ o < T b 1) : (o ≠ w ∧ wb_cn T b o → w113 Tm w o = some 1) ∧ (¬ (o ≠ w ∧ wb_cn T b o) → w113 Tm w o = some 0) := by
  obtain ⟨-, ⟨-, h1, -, -, hc⟩, hse, -⟩ := id I
  have ho7 : 0 ≤ o ∧ o < 7 := ⟨ho.1, by omega⟩
  obtain ⟨-, hha, -, has, -, -, -, h16⟩ := hse o ho7
  have m8 : Tm 222 (8 + 9 * o + 8) = T (b + 11) o := wb_rd_hgt R h1.2 ho
  have m3 : Tm 222 (8 + 9 * o + 3) = T (b + 5) o := wb_rd_st R h1.2 ho 5 (by decide)
  have m1 : Tm 222 (8 + 9 * o + 1) = T (b + 3) o + 1 := wb_rd_hd R h1.2 ho
  have e32 : ∀ s0 : Int, (s0 = 0 ∨ s0 = 1) → w113_32 Tm w o (T (b + 11) o) s0 = (if w = o then some 0 else if 1 < T (b + 11) o then some 1 else if T (b + 11) o = 1 then (if s0 = 0 then some 0 else some 1) else some 0) := by
    intro s0 hs0
    unfold w113_32
    rw [wb_r2 ⟨by omega, by omega⟩ ⟨by omega, by omega⟩, Option.bind_some]
    by_cases h2 : w = o
    · rw [if_pos h2, if_pos h2]
    · rw [if_neg h2, if_neg h2, wb_r2 ⟨by omega, by omega⟩ (by decide), Option.bind_some, Option.bind_some]
      by_cases h3 : 1 < T (b + 11) o
      · rw [if_pos h3, if_pos h3]
      · rw [if_neg h3, if_neg h3]
        by_cases h4 : T (b + 11) o = 1
        · rw [if_pos h4, if_pos h4, wb_r1 ⟨by omega, by omega⟩, Option.bind_some]
        · rw [if_neg h4, if_neg h4]
  have e : w113 Tm w o = (if T (b + 5) o = 1 then w113_32 Tm w o (T (b + 11) o) 1 else if 0 < T (b + 3) o + 1 then w113_32 Tm w o (T (b + 11) o) 1 else w113_32 Tm w o (T (b + 11) o) 0) := by
    unfold w113 w113_27
    rw [wb_w98 ho7 (by decide), Option.bind_some, wb_w98 ho7 (by decide), Option.bind_some, m8, m3, wb_r2 ⟨by omega, by omega⟩ (by decide), Option.bind_some]
    by_cases h2 : T (b + 5) o = 1
    · rw [if_pos h2, if_pos h2]
    · rw [if_neg h2, if_neg h2, wb_w98 ho7 (by decide), Option.bind_some, m1, wb_r1 ⟨by omega, by omega⟩, Option.bind_some]
  rw [e, e32 0 (.inl rfl), e32 1 (.inr rfl)]
  unfold wb_cn
  constructor
  · rintro ⟨h2, h3⟩
    repeat' split
    all_goals first | rfl | omega
  · intro h2
    repeat' split
    all_goals first | rfl | omega
theorem wb_md {d n : Int} (h : 0 ≤ d ∧ d < n) : (d % n = d) ∧ ((d + n) % n = d) := ⟨Int.emod_eq_of_lt h.1 h.2, by rw [Int.add_emod_right]; exact Int.emod_eq_of_lt h.1 h.2⟩
theorem wb_dist {w o n : Int} (hw : 0 ≤ w ∧ w < n) (ho : 0 ≤ o ∧ o < n) (h : o ≠ w) : (o - w + n) % n = n - (if w < o then n - (o - w) else w - o) := by
  by_cases h1 : w < o
  · rw [if_pos h1, (wb_md (d := o - w) (n := n) ⟨by omega, by omega⟩).2]
    omega
  · rw [if_neg h1, (wb_md (d := o - w + n) (n := n) ⟨by omega, by omega⟩).1]
    omega
theorem wb_w40 {T : sw_T} {b : Nat} {N w o : Int} (I : wb_iv T b N) (hw : 0 ≤ w ∧ w < T b 1) (ho : 0 ≤ o ∧ o < T b 1) (hn : wb_cn T b o) : w40 b T w o = some (wb_mr T b w o) ∧ (-7 ≤ wb_mr T b w o ∧ wb_mr T b w o ≤ 99) := by
  obtain ⟨⟨-, hst, -⟩, ⟨-, h1, -, -, hc⟩, hse, -, hpi, -, hsh, -⟩ := id I
  have ho7 : 0 ≤ o ∧ o < 7 := ⟨ho.1, by omega⟩
  obtain ⟨-, hha, -, has, -, -, -, h16⟩ := hse o ho7
  have hh : 1 ≤ T (b + 11) o := by unfold wb_cn at hn; omega
  obtain ⟨hs, -, -⟩ := hpi o 0 ho7 ⟨by omega, by omega⟩
  have hk := (hsh _ hs).1
  unfold w40 wb_mr
  rw [wb_ld (by decide), Option.bind_some, wb_r1 ⟨by omega, by omega⟩, Option.bind_some]
  by_cases h2 : T (b + 1) 1 = 0
  · rw [if_pos h2, if_pos h2, wb_w18 ho7, Option.bind_some]
    exact ⟨rfl, by omega, by omega⟩
  · rw [if_neg h2, if_neg h2]
    by_cases h3 : T (b + 1) 1 = 1
    · rw [if_pos h3, if_pos h3, wb_r2 ⟨by omega, by omega⟩ ⟨by omega, by omega⟩, Option.bind_some]
      by_cases h4 : w < o
      · rw [if_pos h4, if_pos h4]
        exact ⟨rfl, by omega, by omega⟩
      · rw [if_neg h4, if_neg h4]
        exact ⟨rfl, by omega, by omega⟩
    · rw [if_neg h3, if_neg h3, wb_w19 ho7 (by unfold wb_rg; decide) h16, Option.bind_some, if_pos ⟨by decide, by omega⟩, wb_w53y hc hs, Option.bind_some]
      exact ⟨rfl, by omega, by omega⟩
theorem wb_w114 {T Tm : sw_T} {b : Nat} {N w o q : Int} (I : wb_iv T b N) (R : wb_rp T b (Tm 222)) (hw : 0 ≤ w ∧ w < T b 1) (ho : 0 ≤ o ∧ o < T b 1) (hn : wb_cn T b o) (how : o ≠ w) (hq : 0 ≤ q ∧ q < T b 1) (hnq : wb_cn T b q) (hqw : q ≠ w) : w114 Tm w o q = some (if wb_mr T b w q < wb_mr T b w o then 1 else 0) := by
  obtain ⟨⟨-, hst, -⟩, ⟨-, h1, -, -, hc⟩, hse, -, hpi, -, hsh, -⟩ := id I
  have ho7 : 0 ≤ o ∧ o < 7 := ⟨ho.1, by omega⟩
  have hq7 : 0 ≤ q ∧ q < 7 := ⟨hq.1, by omega⟩
  have h16 := (hse o ho7).2.2.2.2.2.2.2
  have q16 := (hse q hq7).2.2.2.2.2.2.2
  have hh : 1 ≤ T (b + 11) o := by unfold wb_cn at hn; omega
  have qh : 1 ≤ T (b + 11) q := by unfold wb_cn at hnq; omega
  obtain ⟨hs, -, -⟩ := hpi o 0 ho7 ⟨by omega, by omega⟩
  obtain ⟨qs, -, -⟩ := hpi q 0 hq7 ⟨by omega, by omega⟩
  have hk := (hsh _ hs).1
  have qk := (hsh _ qs).1
  have m1 : Tm 222 1 = T (b + 1) 1 := wb_rd_set R h1.1 (by decide)
  have m4 : Tm 222 4 = T b 1 := (wb_rd_sc R h1.1).2.1
  have mo : Tm 222 (8 + 9 * o + 8) = T (b + 11) o := wb_rd_hgt R h1.2 ho
  have mq : Tm 222 (8 + 9 * q + 8) = T (b + 11) q := wb_rd_hgt R h1.2 hq
  have po := wb_rd_pile R h1.2 ho (p := 0) ⟨by omega, by omega⟩ h16.2
  have pq := wb_rd_pile R h1.2 hq (p := 0) ⟨by omega, by omega⟩ q16.2
  have so : Tm 222 (183 + 3 * wb_pi T b o 0 + 0) = T (b + 21) (wb_pi T b o 0) := wb_rd_shirt R hs 21 (by decide)
  have sq : Tm 222 (183 + 3 * wb_pi T b q 0 + 0) = T (b + 21) (wb_pi T b q 0) := wb_rd_shirt R qs 21 (by decide)
  unfold w114 wb_mr
  rw [wb_ld (by decide), Option.bind_some, m1, wb_r1 ⟨by omega, by omega⟩, Option.bind_some]
  by_cases h2 : T (b + 1) 1 = 0
  · rw [if_pos h2, if_pos h2, if_pos h2, wb_w98 ho7 (by decide), Option.bind_some, wb_w98 hq7 (by decide), Option.bind_some, mo, mq, wb_r2 ⟨by omega, by omega⟩ ⟨by omega, by omega⟩, Option.bind_some]
    split <;> rfl
  · rw [if_neg h2, if_neg h2, if_neg h2]
    by_cases h3 : T (b + 1) 1 = 1
    · have d1 := wb_dist hw ho how
      have d2 := wb_dist hw hq hqw
      rw [if_pos h3, if_pos h3, if_pos h3, wb_ld (by decide), Option.bind_some, Option.bind_some, m4, wb_dv ⟨⟨by omega, by omega⟩, by omega, by omega⟩, Option.bind_some, Option.bind_some, Option.bind_some, wb_dv ⟨⟨by omega, by omega⟩, by omega, by omega⟩, Option.bind_some, d1, d2, wb_r2 ⟨by split <;> omega, by split <;> omega⟩ ⟨by split <;> omega, by split <;> omega⟩, Option.bind_some]
      repeat' split
      all_goals first | rfl | omega
    · rw [if_neg h3, if_neg h3, if_neg h3, wb_w101 ho7 (by decide), Option.bind_some, po, wb_w102 ⟨hs.1, by omega⟩ (by decide), Option.bind_some, so, wb_w101 hq7 (by decide), Option.bind_some, pq, wb_w102 ⟨qs.1, by omega⟩ (by decide), Option.bind_some, sq, wb_r2 ⟨by omega, by omega⟩ ⟨by omega, by omega⟩, Option.bind_some]
      split <;> rfl
