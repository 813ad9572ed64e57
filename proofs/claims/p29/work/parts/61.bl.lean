/-! ===== a room stays a room: taking ===== -/
theorem wb_iv_take {T T' : sw_T} {b : Nat} {N w o s d i0 : Int} (I : wb_iv T b N) (hw : 0 ≤ w ∧ w < T b 1) (ho : 0 ≤ o ∧ o < T b 1) (hd : d = 0 ∨ d = 1) (hhand : T (b + 3) w = -1) (hi0 : 0 ≤ i0 ∧ i0 < T (b + 11) o) (hs : s = wb_pi T b o i0)
    (he : ∀ a, a ≠ b → a ≠ b + 3 → a ≠ b + 4 → a ≠ b + 7 → a ≠ b + 11 → a ≠ b + (13 + o.toNat) → a ≠ b + 22 → a ≠ b + 23 → T' a = T a)
    (e0 : T' b 0 = T b 0 ∧ T' b 1 = T b 1 ∧ T' b 2 = T b 2 + 1 ∧ T' b 3 = T b 3)
    (t3 : T' (b + 3) = sw_ui (T (b + 3)) w s) (t4 : T' (b + 4) = sw_ui (T (b + 4)) w 0) (t7 : T' (b + 7) = sw_ui (T (b + 7)) w (T (b + 7) w + d)) (t11 : T' (b + 11) = sw_ui (T (b + 11)) o (T (b + 11) o - 1)) (t22 : T' (b + 22) = sw_ui (T (b + 22)) s 1) (t23 : T' (b + 23) = sw_ui (T (b + 23)) s w)
    (hp1 : ∀ j, 0 ≤ j ∧ j < T (b + 11) o - 1 → ∃ i, (0 ≤ i ∧ i < T (b + 11) o) ∧ wb_pi T' b o j = wb_pi T b o i ∧ wb_pi T b o i ≠ s) (hp2 : ∀ i j, 0 ≤ i ∧ i < j ∧ j < T (b + 11) o - 1 → wb_pi T' b o i ≠ wb_pi T' b o j) : wb_iv T' b N := by
  obtain ⟨i1, i2, i7, i8, i9, i10, i11, c0, c1, c2, c3, c4⟩ := I
  obtain ⟨e00, e01, e02, e03⟩ := e0
  have h1 : 2 ≤ T b 1 ∧ T b 1 ≤ 7 := i2.2.1
  have hc := i2.2.2.2.2
  have hw7 : 0 ≤ w ∧ w < 7 := ⟨hw.1, by omega⟩
  have ho7 : 0 ≤ o ∧ o < 7 := ⟨ho.1, by omega⟩
  have hh16 := (i7 o ho7).2.2.2.2.2.2.2
  have w7 := (i7 w hw7).2.2.2.2.1.2
  obtain ⟨hs1, hs2, hs3⟩ := i9 o i0 ho7 hi0
  rw [← hs] at hs1 hs2 hs3
  have E : ∀ k, (k = 1 ∨ k = 2 ∨ k = 5 ∨ k = 6 ∨ k = 8 ∨ k = 9 ∨ k = 20 ∨ k = 21) → T' (b + k) = T (b + k) := fun k hk => he _ (by omega) (by omega) (by omega) (by omega) (by omega) (by omega) (by omega) (by omega)
  have hpx : ∀ x j, 0 ≤ x ∧ x < 7 → x ≠ o → wb_pi T' b x j = wb_pi T b x j := fun x j hx hxo => by
    unfold wb_pi
    rw [he _ (by omega) (by omega) (by omega) (by omega) (by omega) (by omega) (by omega) (by omega)]
  have o22 : ∀ x, x ≠ s → T' (b + 22) x = T (b + 22) x := fun x hx => by rw [t22]; exact if_neg hx
  have o23 : ∀ x, x ≠ s → T' (b + 23) x = T (b + 23) x := fun x hx => by rw [t23]; exact if_neg hx
  have n22 : T' (b + 22) s = 1 := by rw [t22]; exact if_pos rfl
  have n23 : T' (b + 23) s = w := by rw [t23]; exact if_pos rfl
  have hdd : wb_hd T' b = sw_ui (wb_hd T b) w 1 := by
    funext x
    unfold wb_hd
    rw [t3]
    unfold sw_ui
    by_cases hx : x = w
    · rw [if_pos hx, if_pos hx, if_neg (by omega)]
    · rw [if_neg hx, if_neg hx]
  refine ⟨by rw [E 1 (by omega)]; exact i1, ⟨by rw [e00]; exact i2.1, by rw [e01]; exact h1, by rw [e02]; have := i2.2.2.1; omega, by rw [e03]; exact i2.2.2.2.1, by rw [E 20 (by omega)]; exact hc⟩, ?_, ?_, ?_, ?_, ?_, ?_⟩
  · intro x hx
    obtain ⟨q1, q2, q3, q4, q5, q6, q7, q8⟩ := i7 x hx
    unfold wb_se
    rw [E 2 (by omega), E 5 (by omega), E 6 (by omega), E 8 (by omega), E 9 (by omega), E 20 (by omega), t3, t4, t7, t11]
    refine ⟨q1, ?_, ?_, q4, ?_, q6, q7, ?_⟩
    · by_cases hxw : x = w
      · have e : sw_ui (T (b + 3)) w s x = s := if_pos hxw
        rw [e, n22, n23]
        exact .inr ⟨hs1.1, hs1.2, rfl, hxw.symm⟩
      · have e : sw_ui (T (b + 3)) w s x = T (b + 3) x := if_neg hxw
        rw [e]
        rcases q2 with q2 | ⟨p1, p2, p3, p4⟩
        · exact .inl q2
        · have hne : T (b + 3) x ≠ s := by
            intro hx2
            rw [hx2, hs2] at p3
            exact absurd p3 (by decide)
          exact .inr ⟨p1, p2, by rw [o22 _ hne]; exact p3, by rw [o23 _ hne]; exact p4⟩
    · unfold sw_ui
      split
      · decide
      · exact q3
    · unfold sw_ui
      refine ⟨q5.1, ?_⟩
      split
      · omega
      · exact q5.2
    · unfold sw_ui
      split
      · omega
      · exact q8
  · intro x hx
    rw [e01] at hx
    have := i8 x hx
    unfold wb_cl at this ⊢
    rw [E 5 (by omega), E 6 (by omega), E 8 (by omega), E 9 (by omega), t3, t4, t7, t11]
    unfold sw_ui
    rw [if_neg (by omega), if_neg (by omega), if_neg (by omega), if_neg (by omega)]
    exact this
  · intro x j hx hj
    rw [t11] at hj
    unfold sw_ui at hj
    rw [E 20 (by omega)]
    by_cases hxo : x = o
    · rw [if_pos hxo] at hj
      rw [hxo]
      obtain ⟨i, q1, q2, q3⟩ := hp1 j hj
      obtain ⟨p1, p2, p3⟩ := i9 o i ho7 q1
      rw [q2]
      exact ⟨p1, by rw [o22 _ q3]; exact p2, by rw [o23 _ q3]; exact p3⟩
    · rw [if_neg hxo] at hj
      rw [hpx x j hx hxo]
      obtain ⟨p1, p2, p3⟩ := i9 x j hx hj
      have hne : wb_pi T b x j ≠ s := by
        intro hx2
        rw [hx2, hs3] at p3
        exact hxo p3.symm
      exact ⟨p1, by rw [o22 _ hne]; exact p2, by rw [o23 _ hne]; exact p3⟩
  · intro x i j hx hj
    rw [t11] at hj
    unfold sw_ui at hj
    by_cases hxo : x = o
    · rw [if_pos hxo] at hj
      rw [hxo]
      exact hp2 i j hj
    · rw [if_neg hxo] at hj
      rw [hpx x i hx hxo, hpx x j hx hxo]
      exact i10 x i j hx hj
  · intro x hx
    rw [E 20 (by omega)] at hx
    obtain ⟨q1, q2, q3⟩ := i11 x hx
    rw [E 21 (by omega)]
    by_cases hxs : x = s
    · rw [hxs, n22, n23]
      rw [hxs] at q1
      exact ⟨q1, by decide, hw7⟩
    · rw [o22 x hxs, o23 x hxs]
      exact ⟨q1, q2, q3⟩
  · have hk : s < ((T (b + 20) 0).toNat : Int) := by omega
    have hdw : wb_hd T b w = 0 := by unfold wb_hd; rw [if_pos hhand]
    rw [e02, E 6 (by omega), E 20 (by omega), t7, t11, t22, hdd, wb_ct_ui _ hs1.1 hk, wb_ct_ui _ hs1.1 hk, wb_ct_ui _ hs1.1 hk, hs2, wb_s7_ui ho7, wb_s7_ui hw7, wb_s7_ui hw7, hdw]
    refine ⟨?_, ?_, ?_, by omega, by omega⟩
    · rw [c0]; simp; omega
    · rw [c1]; simp
    · rw [c2]; simp
