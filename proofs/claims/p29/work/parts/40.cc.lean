/-! ===== the law from its beginning, out of its function over tables ===== -/
def sw_T0 : sw_T := t73 (fun _ _ => 0)
def sw_F0 : sw_F := f73 (fun _ _ => false)
def sw_isr (c k : Nat) : Bool := match c with
  | 10 => k == 0
  | 11 => k == 0
  | 12 => k < 2
  | 13 => decide (4 ≤ k ∧ k < 15)
  | 14 => decide (1 ≤ k ∧ k < 4)
  | 15 => k < 5
  | _ => false
theorem sw_F0_ok : ∀ a, a < 221 → ∀ k, k < 15 → sw_isr ((sw_L[a]?.map (·.1)).getD 0) k = true → sw_F0 a k = true := by decide +kernel
theorem sw_L_lt : ∀ a, a < 221 → ((sw_L[a]?.map (·.1)).getD 0) < 6 ∨ 10 ≤ ((sw_L[a]?.map (·.1)).getD 0) ∧ ((sw_L[a]?.map (·.1)).getD 0) < 16 := by decide +kernel
theorem sw_h_all {z : Nat} {T : sw_T} : sw_h z 221 sw_F0 T = sw_h z 221 sw_Ft T := by
  funext q
  unfold sw_h
  by_cases h : q < z
  · rw [if_pos h, if_pos h]
  · rw [if_neg h, if_neg h]
    by_cases h2 : q - z < 221
    · rw [sw_s_lt h2]
      have h3 := sw_F0_ok (q - z) h2
      have h4 := sw_L_lt (q - z) h2
      cases hs : sw_L[q - z]? with
      | none => rfl
      | some s =>
        rw [hs] at h3 h4
        obtain ⟨c, m⟩ := s
        show some (sw_ce z (q - z) (sw_F0 (q - z)) (T (q - z)) (c, m)) = some (sw_ce z (q - z) (sw_Ft (q - z)) (T (q - z)) (c, m))
        have h3 : ∀ k, k < 15 → sw_isr c k = true → sw_F0 (q - z) k = true := h3
        have h4 : c < 6 ∨ 10 ≤ c ∧ c < 16 := h4
        congr 1
        generalize sw_F0 (q - z) = f at h3
        have h5 : c = 0 ∨ c = 1 ∨ c = 2 ∨ c = 3 ∨ c = 4 ∨ c = 5 ∨ c = 10 ∨ c = 11 ∨ c = 12 ∨ c = 13 ∨ c = 14 ∨ c = 15 := by omega
        clear h4
        rcases h5 with rfl | rfl | rfl | rfl | rfl | rfl | rfl | rfl | rfl | rfl | rfl | rfl
        · rfl
        · rfl
        · rfl
        · rfl
        · rfl
        · rfl
        · simp [sw_ce, sw_fd, sw_rf, sw_Ft, h3 0 (by decide) rfl]
        · simp [sw_ce, sw_fd, sw_rf, sw_Ft, h3 0 (by decide) rfl]
        · simp [sw_ce, sw_fd, sw_rf, sw_Ft, h3 0 (by decide) rfl, h3 1 (by decide) rfl]
        · simp [sw_ce, sw_fd, sw_rf, sw_Ft, h3 4 (by decide) rfl, h3 5 (by decide) rfl, h3 6 (by decide) rfl, h3 7 (by decide) rfl, h3 8 (by decide) rfl, h3 9 (by decide) rfl, h3 10 (by decide) rfl, h3 11 (by decide) rfl, h3 12 (by decide) rfl, h3 13 (by decide) rfl, h3 14 (by decide) rfl]
        · simp [sw_ce, sw_fd, sw_rf, sw_Ft, h3 1 (by decide) rfl, h3 2 (by decide) rfl, h3 3 (by decide) rfl]
        · simp [sw_ce, sw_fd, sw_rf, sw_Ft, h3 0 (by decide) rfl, h3 1 (by decide) rfl, h3 2 (by decide) rfl, h3 3 (by decide) rfl, h3 4 (by decide) rfl]
    · rw [sw_s_ge (by omega)]
      rfl
theorem sw_h_nil {z : Nat} {F : sw_F} {T : sw_T} : sw_h z 0 F T = fun _ => none := by
  funext q
  unfold sw_h
  split
  · rfl
  · rw [sw_s_ge (Nat.zero_le _)]
    rfl
theorem sw_law {G : sp_G} {z : Nat} (hG : sw_G G z) {T' : sw_T} (h : w205 G sw_T0 = some (1, T')) : ∃ n M', sp_exec G n 73 0 (sp_ent 15 [.ref G.1]) [] (some z, 0, 0, fun _ => none) = some (.inl (some (.int 1)), M') ∧ M'.2.1 ≤ 600172 ∧ M'.2.2.1 ≤ 7300668 := by
  have h1 : sq_go G 73 0 [some (.ref G.1), none, none, none, none, none, none, none, none, none, none, none, none, none, none] [] (sw_M z 0 (fun _ _ => false) (fun _ _ => 0) (some (z + 0), 0, 0)) (fun r M' => r = .inl (some (.int 1)) ∧ M'.2.1 ≤ 600172 ∧ M'.2.2.1 ≤ 7300668) := by
    refine C73 ?_
    have h2 : sw_M z 221 (f73 (fun _ _ => false)) (t73 (fun _ _ => 0)) (some (z + 221), 0 + 221, 0 + 5170) = sw_M z 221 sw_Ft sw_T0 (some (z + 221), 221, 5170) := by
      show (some (z + 221), 221, 5170, sw_h z 221 sw_F0 sw_T0) = (some (z + 221), 221, 5170, sw_h z 221 sw_Ft sw_T0)
      rw [sw_h_all]
    rw [h2]
    refine A73 (by decide) hG h ⟨rfl, ?_, ?_⟩
    · show 221 ≤ 600172
      decide
    · show 5170 ≤ 7300668
      decide
  rw [show sw_M z 0 (fun _ _ => false) (fun _ _ => 0) (some (z + 0), 0, 0) = (some z, 0, 0, fun _ => none) by show (some (z + 0), 0, 0, sw_h z 0 _ _) = _; rw [sw_h_nil]; rfl] at h1
  obtain ⟨n, r, M', h2, rfl, h3, h4⟩ := h1
  exact ⟨n, M', h2, h3, h4⟩
