/-! ===== the reference's sums and counts are the room's ===== -/
theorem wb_w121_ok {T Tm : sw_T} {b : Nat} {N : Int} (I : wb_iv T b N) (R : wb_rp T b (Tm 222)) (t : Nat) (ht : (2 ≤ t ∧ t < 10) ∧ t ≠ 3) (h0 : ∀ w, T b 1 ≤ w ∧ w < 7 → T (b + t) w = 0) : w121 Tm ((t : Int) - 2) = some (wb_s7 (T (b + t))) := by
  have h1 : 2 ≤ T b 1 ∧ T b 1 ≤ 7 := I.2.1.2.1
  have m4 : Tm 222 4 = T b 1 := (wb_rd_sc R h1.1).2.1
  unfold w121
  rw [wb_w121_4 m4 h1 (by omega) 7 0 0 (by decide) (by omega) (by decide) sw_N (by decide), Option.bind_some, wb_sg_cg (g := T (b + t)) (fun w hw => wb_rd_st R h1.2 hw t ht) 7 0 (by decide), wb_sg_s7 h1 h0, Int.zero_add]
theorem wb_w123_4 {T Tm : sw_T} {b : Nat} {N c : Int} (I : wb_iv T b N) (R : wb_rp T b (Tm 222)) (hc3 : 0 ≤ c ∧ c < 3) : ∀ (k l : Nat) (s : Int), T (b + 20) 0 - l ≤ k → (l : Int) ≤ T (b + 20) 0 → ∀ m, k < m → w123_4 Tm c m s l = some (s + (wb_ct (T (b + 22)) c (T (b + 20) 0).toNat - wb_ct (T (b + 22)) c l)) := by
  have h1 : 2 ≤ T b 1 ∧ T b 1 ≤ 7 := I.2.1.2.1
  have hc := I.2.1.2.2.2.2
  have m5 : Tm 222 5 = T (b + 20) 0 := (wb_rd_sc R h1.1).2.2.1
  intro k
  induction k with
  | zero =>
    intro l s hk hl m hm
    obtain ⟨m, rfl⟩ : ∃ q, m = q + 1 := ⟨m - 1, by omega⟩
    unfold w123_4
    rw [wb_ld (by decide), Option.bind_some, m5, wb_r2 (a := (l : Int)) (b := T (b + 20) 0) ⟨by omega, by omega⟩ ⟨by omega, by omega⟩, Option.bind_some, if_neg (by omega), show (T (b + 20) 0).toNat = l by omega, Int.sub_self, Int.add_zero]
  | succ k ih =>
    intro l s hk hl m hm
    obtain ⟨m, rfl⟩ : ∃ q, m = q + 1 := ⟨m - 1, by omega⟩
    unfold w123_4
    rw [wb_ld (by decide), Option.bind_some, m5, wb_r2 (a := (l : Int)) (b := T (b + 20) 0) ⟨by omega, by omega⟩ ⟨by omega, by omega⟩, Option.bind_some]
    by_cases h2 : (l : Int) < T (b + 20) 0
    · have hs : 0 ≤ (l : Int) ∧ (l : Int) < T (b + 20) 0 := ⟨by omega, h2⟩
      have ms : Tm 222 (183 + 3 * (l : Int) + 1) = T (b + 22) l := wb_rd_shirt R hs 22 (by decide)
      have hr := (I.2.2.2.2.2.2.1 l hs).2.1
      have e : wb_ct (T (b + 22)) c (l + 1) = wb_ct (T (b + 22)) c l + (if T (b + 22) l = c then 1 else 0) := rfl
      rw [if_pos h2, wb_w102 ⟨by omega, by omega⟩ (by decide), Option.bind_some, ms, wb_r2 (a := T (b + 22) l) (b := c) ⟨by omega, by omega⟩ ⟨by omega, by omega⟩, Option.bind_some]
      by_cases h3 : T (b + 22) l = c
      · rw [if_pos h3] at e
        have := ih (l + 1) (s + 1) (by omega) (by omega) m (by omega)
        rw [if_pos h3, show (l : Int) + 1 = ((l + 1 : Nat) : Int) by omega, this, e]
        congr 1
        omega
      · rw [if_neg h3] at e
        have := ih (l + 1) (s + 0) (by omega) (by omega) m (by omega)
        rw [if_neg h3, show (l : Int) + 1 = ((l + 1 : Nat) : Int) by omega, this, e]
        congr 1
        omega
    · rw [if_neg h2, show (T (b + 20) 0).toNat = l by omega, Int.sub_self, Int.add_zero]
theorem wb_w123 {T Tm : sw_T} {b : Nat} {N c : Int} (I : wb_iv T b N) (R : wb_rp T b (Tm 222)) (hc3 : 0 ≤ c ∧ c < 3) : w123 Tm c = some (wb_ct (T (b + 22)) c (T (b + 20) 0).toNat) := by
  have hc := I.2.1.2.2.2.2
  unfold w123
  have := wb_w123_4 I R hc3 120 0 0 (by omega) (by omega) sw_N (by decide)
  rw [show ((0 : Nat) : Int) = 0 from rfl] at this
  rw [this, Option.bind_some]
  show some (0 + (wb_ct (T (b + 22)) c (T (b + 20) 0).toNat - 0)) = _
  congr 1
  omega
