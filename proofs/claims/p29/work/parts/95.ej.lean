/-! ===== the tables at the beginning; the law over tables ===== -/
theorem wl_t1 : (sw_T0 2 0 = 20 ∧ sw_T0 2 1 = 0 ∧ sw_T0 2 2 = 3) ∧ (sw_T0 1 0 = 0 ∧ sw_T0 1 1 = 2 ∧ sw_T0 1 2 = 0 ∧ sw_T0 1 3 = 0 ∧ sw_T0 21 0 = 0) := by decide +kernel
theorem wl_t2 : ∀ w : Fin 7, sw_T0 3 w.val = 1 ∧ sw_T0 4 w.val = -1 ∧ sw_T0 5 w.val = 0 ∧ sw_T0 6 w.val = 0 ∧ sw_T0 7 w.val = 0 ∧ sw_T0 8 w.val = 0 ∧ sw_T0 9 w.val = 0 ∧ sw_T0 10 w.val = 0 ∧ sw_T0 12 w.val = 0 := by decide +kernel
theorem wl_t4 : sw_T0 0 5 = 0 ∧ sw_T0 73 1 = 0 := by decide +kernel
theorem wl_t5 : sw_T0 74 0 = 75 ∧ sw_T0 74 1 = 99 ∧ sw_T0 74 2 = 123 ∧ sw_T0 74 3 = 147 ∧ sw_T0 74 4 = 171 ∧ sw_T0 74 5 = 195 := by decide +kernel
theorem wl_t2' {w : Int} (hw : 0 ≤ w ∧ w < 7) : sw_T0 3 w = 1 ∧ sw_T0 4 w = -1 ∧ sw_T0 5 w = 0 ∧ sw_T0 6 w = 0 ∧ sw_T0 7 w = 0 ∧ sw_T0 8 w = 0 ∧ sw_T0 9 w = 0 ∧ sw_T0 10 w = 0 ∧ sw_T0 12 w = 0 := by
  have := wl_t2 ⟨w.toNat, by omega⟩
  have e : ((w.toNat : Nat) : Int) = w := by omega
  rw [← e]
  exact this
theorem wl_iv : wb_iv sw_T0 1 0 := by
  obtain ⟨⟨a0, a1, a2⟩, b0, b1, b2, b3, c0⟩ := wl_t1
  have hct : ∀ (f : Int → Int) (k : Int), wb_ct f k (sw_T0 (1 + 20) 0).toNat = 0 := fun f k => by
    rw [show sw_T0 (1 + 20) 0 = 0 from c0]
    rfl
  have hs : ∀ t : Nat, (∀ w, 0 ≤ w ∧ w < 7 → sw_T0 t w = 0) → wb_s7 (sw_T0 t) = 0 := fun t h => by
    unfold wb_s7
    rw [h 0 (by decide), h 1 (by decide), h 2 (by decide), h 3 (by decide), h 4 (by decide), h 5 (by decide), h 6 (by decide)]
    rfl
  have h11 : wb_s7 (sw_T0 (1 + 11)) = 0 := hs 12 (fun w hw => (wl_t2' hw).2.2.2.2.2.2.2.2)
  have h6 : wb_s7 (sw_T0 (1 + 6)) = 0 := hs 7 (fun w hw => (wl_t2' hw).2.2.2.2.1)
  have h7 : wb_s7 (sw_T0 (1 + 7)) = 0 := hs 8 (fun w hw => (wl_t2' hw).2.2.2.2.2.1)
  have hhd : wb_s7 (wb_hd sw_T0 1) = 0 := by
    have hz : ∀ w, 0 ≤ w ∧ w < 7 → wb_hd sw_T0 1 w = 0 := fun w hw => if_pos (wl_t2' hw).2.1
    unfold wb_s7
    rw [hz 0 (by decide), hz 1 (by decide), hz 2 (by decide), hz 3 (by decide), hz 4 (by decide), hz 5 (by decide), hz 6 (by decide)]
    rfl
  have hc : sw_T0 (1 + 20) 0 = 0 := c0
  have e11 : ∀ w, 0 ≤ w ∧ w < 7 → sw_T0 (1 + 11) w = 0 := fun w hw => (wl_t2' hw).2.2.2.2.2.2.2.2
  refine ⟨⟨?_, ?_, ?_⟩, ⟨?_, ?_, ?_, ?_, ?_⟩, fun w hw => ?_, fun w hw => ?_, fun w j hw hj => ?_, fun w i j hw hi => ?_, fun s hs => ?_, ?_, ?_, ?_, ?_, ?_⟩
  · show 2 ≤ sw_T0 2 0 ∧ sw_T0 2 0 ≤ 99
    omega
  · show 0 ≤ sw_T0 2 1 ∧ sw_T0 2 1 ≤ 2
    omega
  · show 1 ≤ sw_T0 2 2 ∧ sw_T0 2 2 ≤ 20
    omega
  · omega
  · omega
  · omega
  · omega
  · omega
  · obtain ⟨d2, d3, d4, d5, d6, d7, d8, d9, d11⟩ := wl_t2' hw
    show (1 ≤ sw_T0 3 w ∧ sw_T0 3 w ≤ 9) ∧ (sw_T0 4 w = -1 ∨ _) ∧ (0 ≤ sw_T0 5 w ∧ sw_T0 5 w ≤ 20) ∧ (sw_T0 6 w = 0 ∨ sw_T0 6 w = 1) ∧ (0 ≤ sw_T0 7 w ∧ 0 ≤ sw_T0 8 w) ∧ (0 ≤ sw_T0 9 w ∧ sw_T0 9 w ≤ 0) ∧ (0 ≤ sw_T0 10 w ∧ sw_T0 10 w ≤ 0) ∧ (0 ≤ sw_T0 12 w ∧ sw_T0 12 w ≤ 16)
    exact ⟨by omega, .inl d3, by omega, .inl d5, by omega, by omega, by omega, by omega⟩
  · obtain ⟨d2, d3, d4, d5, d6, d7, d8, d9, d11⟩ := wl_t2' (w := w) ⟨by omega, hw.2⟩
    exact ⟨d3, d4, d5, d6, d7, d8, d9, d11⟩
  · rw [e11 w hw] at hj
    omega
  · rw [e11 w hw] at hi
    omega
  · rw [hc] at hs
    omega
  · rw [hct, h11]
  · rw [hct, hhd]
  · rw [hct, h6]
  · rw [h11, hc, b2]
    rfl
  · rw [h7, b2]
    exact Int.le_refl _
theorem wq_r0 : wq_r sw_T0 1 0 := by
  refine ⟨⟨wl_iv, ?_⟩, fun w hw h => absurd (wl_t2' hw).2.1 h, fun s hs => ?_⟩
  · have := wl_t1.2.2.1
    omega
  · have hc : sw_T0 (1 + 20) 0 = 0 := wl_t1.2.2.2.2.2
    rw [hc] at hs
    omega
theorem wq_hs0 : wq_hs sw_T0 0 := by
  obtain ⟨k0, k1, k2, k3, k4, k5⟩ := wl_t5
  have h73 := wl_t4.2
  have hk : ∀ k, 0 ≤ k ∧ k < 6 → sw_T0 74 k = 75 + 24 * k := fun k hk => by
    have : k = 0 ∨ k = 1 ∨ k = 2 ∨ k = 3 ∨ k = 4 ∨ k = 5 := by omega
    rcases this with rfl | rfl | rfl | rfl | rfl | rfl
    · exact k0
    · exact k1
    · exact k2
    · exact k3
    · exact k4
    · exact k5
  refine ⟨by rw [h73]; decide, ⟨fun k hk1 => ?_, fun i j hij => ?_⟩, fun k hk1 => ?_⟩
  · rw [hk k hk1]
    unfold wb_hx
    omega
  · rw [hk i ⟨hij.1, by omega⟩, hk j ⟨by omega, hij.2.2⟩]
    omega
  · rw [h73] at hk1
    omega
/-- the law as a function over tables comes to 1 on every script -/
theorem wq_law (G : sp_G) (hL : G.2.1 ≤ 1536) : ∃ T', w205 G sw_T0 = some (1, T') := by
  have R0 : wb_rp sw_T0 1 (wb_en sw_T0 1) := fun j _ => rfl
  obtain ⟨X, e1, S1, -⟩ := wq_keep (K := fun _ => 0) wq_r0 R0 wq_hs0
  obtain ⟨Y, eY⟩ := wq_turn hL 32 0 rfl sw_N (by decide) X (wb_en sw_T0 1) (wb_en sw_T0 1) S1
  have eY : w205_25 G sw_N X (wq_told (wb_en sw_T0 1)) 0 = some (.inl Y) := eY
  have t0 := wq_told_ok wq_r0.1.1 R0 (by decide)
  have m0 : sw_T0 1 0 = 0 := wl_t1.2.1
  rw [m0] at e1
  generalize wq_told (wb_en sw_T0 1) = q at t0 eY
  refine ⟨Y, ?_⟩
  generalize sw_T0 = T at e1 t0
  unfold w205
  rw [t0, Option.bind_some, e1, Option.bind_some]
  show ((sw_r1 0).bind fun _u => if (0 : Int) = 0 then (w205_25 G sw_N X q 0).bind fun x183 => sw_el x183 (fun x185 => some ((1, x185))) (fun r => some r) else some ((0, X))) = some (1, Y)
  rw [wb_r1 (by decide), Option.bind_some, if_pos rfl, eY, Option.bind_some, wb_eli]
