/-! ===== the law from its beginning, out of its function over tables ===== -/
def sw_T0 : sw_T := t187 (fun _ _ => 0)
def sw_F0 : sw_F := f187 (fun _ _ => false)
def sw_isr (c k : Nat) : Bool := match c with
  | 10 => k == 0
  | 11 => k == 0
  | 12 => k < 2
  | 13 => decide (4 ≤ k ∧ k < 15)
  | 14 => decide (1 ≤ k ∧ k < 4)
  | 15 => k < 5
  | 16 => k == 1 || k == 2 || k == 3 || k == 5 || k == 7 || k == 12
  | _ => false
theorem sw_F0_ok : ∀ a, a < 229 → ∀ k, k < 15 → sw_isr ((sw_L[a]?.map (·.1)).getD 0) k = true → sw_F0 a k = true := by decide +kernel
theorem sw_L_lt : ∀ a, a < 229 → ((sw_L[a]?.map (·.1)).getD 0) < 6 ∨ 10 ≤ ((sw_L[a]?.map (·.1)).getD 0) ∧ ((sw_L[a]?.map (·.1)).getD 0) < 17 := by decide +kernel
theorem sw_h_all {z : Nat} {T : sw_T} : sw_h z 229 sw_F0 T = sw_h z 229 sw_Ft T := by
  funext q
  unfold sw_h
  by_cases h : q < z
  · rw [if_pos h, if_pos h]
  · rw [if_neg h, if_neg h]
    by_cases h2 : q - z < 229
    · rw [sw_s_lt h2]
      have h3 := sw_F0_ok (q - z) h2
      have h4 := sw_L_lt (q - z) h2
      cases hs : sw_L[q - z]? with
      | none => rfl
      | some s =>
        rw [hs] at h3 h4
        obtain ⟨c, m⟩ := s
        show some (sw_ce z (q - z) (sw_F0 (q - z)) (T (q - z)) (c, m)) = some (sw_ce z (q - z) (sw_Ft (q - z)) (T (q - z)) (c, m))
        have h3 : ∀ k, k < 15 → sw_isr c k = true → sw_F0 (q - z) k = true := h3
        have h4 : c < 6 ∨ 10 ≤ c ∧ c < 17 := h4
        congr 1
        generalize sw_F0 (q - z) = f at h3
        have h5 : c = 0 ∨ c = 1 ∨ c = 2 ∨ c = 3 ∨ c = 4 ∨ c = 5 ∨ c = 10 ∨ c = 11 ∨ c = 12 ∨ c = 13 ∨ c = 14 ∨ c = 15 ∨ c = 16 := by omega
        clear h4
        rcases h5 with rfl | rfl | rfl | rfl | rfl | rfl | rfl | rfl | rfl | rfl | rfl | rfl | rfl
        · rfl
        · rfl
        · rfl
        · rfl
        · rfl
        · rfl
        · simp [sw_ce, sw_fd, sw_rf, sw_Ft, h3 0 (by decide) rfl]
        · simp [sw_ce, sw_fd, sw_rf, sw_Ft, h3 0 (by decide) rfl]
        · simp [sw_ce, sw_fd, sw_rf, sw_Ft, h3 0 (by decide) rfl, h3 1 (by decide) rfl]
        · simp [sw_ce, sw_fd, sw_rf, sw_Ft, h3 4 (by decide) rfl, h3 5 (by decide) rfl, h3 6 (by decide) rfl, h3 7 (by decide) rfl, h3 8 (by decide) rfl, h3 9 (by decide) rfl, h3 10 (by decide) rfl, h3 11 (by decide) rfl, h3 12 (by decide) rfl, h3 13 (by decide) rfl, h3 14 (by decide) rfl]
        · simp [sw_ce, sw_fd, sw_rf, sw_Ft, h3 1 (by decide) rfl, h3 2 (by decide) rfl, h3 3 (by decide) rfl]
        · simp [sw_ce, sw_fd, sw_rf, sw_Ft, h3 0 (by decide) rfl, h3 1 (by decide) rfl, h3 2 (by decide) rfl, h3 3 (by decide) rfl, h3 4 (by decide) rfl]
        · simp [sw_ce, sw_fd, sw_rf, sw_Ft, h3 1 (by decide) rfl, h3 2 (by decide) rfl, h3 3 (by decide) rfl, h3 5 (by decide) rfl, h3 7 (by decide) rfl, h3 12 (by decide) rfl]
    · rw [sw_s_ge (by omega)]
      rfl
theorem sw_h_nil {z : Nat} {F : sw_F} {T : sw_T} : sw_h z 0 F T = fun _ => none := by
  funext q
  unfold sw_h
  split
  · rfl
  · rw [sw_s_ge (Nat.zero_le _)]
    rfl
theorem sw_law {G : sp_G} {z : Nat} (hG : sw_G G z) {T' : sw_T} (h : w187 G sw_T0 = some (1, T')) : ∃ n M', sp_exec G n 187 0 (sp_ent 9 [.ref G.1]) [] (some z, 0, 0, fun _ => none) = some (.inl (some (.int 1)), M') ∧ M'.2.1 ≤ 601024 ∧ M'.2.2.1 ≤ 7293034 := by
  have h1 : sq_go G 187 0 [some (.ref G.1), none, none, none, none, none, none, none, none] [] (sw_M z 0 (fun _ _ => false) (fun _ _ => 0) (some (z + 0), 0, 0)) (fun r M' => r = .inl (some (.int 1)) ∧ M'.2.1 ≤ 601024 ∧ M'.2.2.1 ≤ 7293034) := by
    refine C187 ?_
    have h2 : sw_M z 229 (f187 (fun _ _ => false)) (t187 (fun _ _ => 0)) (some (z + 229), 0 + 229, 0 + 10233) = sw_M z 229 sw_Ft sw_T0 (some (z + 229), 229, 10233) := by
      show (some (z + 229), 229, 10233, sw_h z 229 sw_F0 sw_T0) = (some (z + 229), 229, 10233, sw_h z 229 sw_Ft sw_T0)
      rw [sw_h_all]
    rw [h2]
    refine A187 (by decide) hG (by decide) h (fun K' hK' => ⟨rfl, ?_, ?_⟩)
    · have := hK'.1
      show K'.2.1 ≤ 601024
      unfold sw_N at this
      have h3 : (some (z + 229), 229, 10233).2.1 = 229 := rfl
      omega
    · have := hK'.2
      show K'.2.2 ≤ 7293034
      unfold sw_N at this
      have h3 : (some (z + 229), 229, 10233).2.2 = 10233 := rfl
      omega
  rw [show sw_M z 0 (fun _ _ => false) (fun _ _ => 0) (some (z + 0), 0, 0) = (some z, 0, 0, fun _ => none) by show (some (z + 0), 0, 0, sw_h z 0 _ _) = _; rw [sw_h_nil]; rfl] at h1
  obtain ⟨n, r, M', h2, rfl, h3, h4⟩ := h1
  exact ⟨n, M', h2, h3, h4⟩
