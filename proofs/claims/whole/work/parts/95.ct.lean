/-! ===== the law comes to its end ===== -/
theorem wl_step {G : sp_G} {m : Nat} {T : sw_T} {l N : Int} (hL : G.2.1 ≤ 1536) (hl : 0 ≤ l ∧ l + 3 ≤ G.2.1) (h : wb_R T T N) (hN : N ≤ 80000000) : ∃ T2, w187_23 G (m + 1) T l = w187_23 G m T2 (l + 3) ∧ wb_R T2 T2 (N + 56000) := by
  have hc0 : 0 ≤ sw_xs G l % 32 := Int.emod_nonneg _ (by decide)
  have hc1 : sw_xs G l % 32 < 32 := Int.emod_lt_of_pos _ (by decide)
  by_cases c26 : 26 ≤ sw_xs G l % 32
  · exact ⟨T, wl_c26 hL hl ⟨c26, hc1⟩, wl_le h (by omega)⟩
  by_cases c0 : sw_xs G l % 32 = 0
  · obtain ⟨k, v, T1, T2, eH, eM, h0, hv, rk, rv, R2⟩ := wl_seq (FH := w169 T (sw_xs G (l + 1))) (FM := fun Tm => w125 Tm (sw_xs G (l + 1))) h (fun Tm hm => wb_op_hire hm wl_rg)
    exact ⟨T2, wl_c0 hL hl c0 eH eM h0 hv rk rv, wl_le R2 (by omega)⟩
  by_cases c1 : sw_xs G l % 32 = 1
  · obtain ⟨k, v, T1, T2, eH, eM, h0, hv, rk, rv, R2⟩ := wl_seq (FH := w170 T (sw_xs G (l + 1)) (sw_xs G (l + 2))) (FM := fun Tm => w126 Tm (sw_xs G (l + 1)) (sw_xs G (l + 2))) h (fun Tm hm => wb_op_speed hm wl_rg wl_rg)
    exact ⟨T2, wl_c1 hL hl c1 eH eM h0 hv rk rv, wl_le R2 (by omega)⟩
  by_cases c2 : sw_xs G l % 32 = 2
  · obtain ⟨k, v, T1, T2, eH, eM, h0, hv, rk, rv, R2⟩ := wl_seq (FH := w171 T (sw_xs G (l + 1)) (sw_xs G (l + 2))) (FM := fun Tm => w128 Tm (sw_xs G (l + 1)) (sw_xs G (l + 2))) h (fun Tm hm => wb_op_lay hm wl_rg wl_rg)
    exact ⟨T2, wl_c2 hL hl c2 eH eM h0 hv rk rv, wl_le R2 (by omega)⟩
  by_cases c3 : sw_xs G l % 32 = 3
  · obtain ⟨k, v, T1, T2, eH, eM, h0, hv, rk, rv, R2⟩ := wl_seq (FH := w172 T (sw_xs G (l + 1))) (FM := fun Tm => w130 Tm (sw_xs G (l + 1))) h (fun Tm hm => wb_op_wake hm wl_rg)
    exact ⟨T2, wl_c3 hL hl c3 eH eM h0 hv rk rv, wl_le R2 (by omega)⟩
  by_cases c4 : sw_xs G l % 32 = 4
  · obtain ⟨k, v, T1, T2, eH, eM, h0, hv, rk, rv, R2⟩ := wl_seq (FH := w173 T (sw_xs G (l + 1))) (FM := fun Tm => w131 Tm (sw_xs G (l + 1))) h (fun Tm hm => wb_op_pass hm wl_rg)
    exact ⟨T2, wl_c4 hL hl c4 eH eM h0 hv rk rv, wl_le R2 (by omega)⟩
  by_cases c5 : sw_xs G l % 32 = 5
  · obtain ⟨k, v, T1, T2, eH, eM, h0, hv, rk, rv, R2⟩ := wl_seq (FH := w174 T (sw_xs G (l + 1)) (sw_xs G (l + 2))) (FM := fun Tm => w132 Tm (sw_xs G (l + 1)) (sw_xs G (l + 2))) h (fun Tm hm => wb_op_set hm wl_rg wl_rg)
    exact ⟨T2, wl_c5 hL hl c5 eH eM h0 hv rk rv, wl_le R2 (by omega)⟩
  by_cases c6 : sw_xs G l % 32 = 6
  · obtain ⟨k, v, T1, T2, eH, eM, h0, hv, rk, rv, R2⟩ := wl_seq (FH := w175 T (sw_xs G (l + 1))) (FM := fun Tm => w133 Tm (sw_xs G (l + 1))) h (fun Tm hm => wb_op_append hm wl_rg)
    exact ⟨T2, wl_c6 hL hl c6 eH eM h0 hv rk rv, wl_le R2 (by omega)⟩
  by_cases c7 : sw_xs G l % 32 = 7
  · obtain ⟨v, T1, T2, eH, eM, rv, R2⟩ := wl_seq2 (FH := w66 T) (FM := fun Tm => w134 Tm) h (fun Tm hm => wb_op_clear hm)
    exact ⟨T2, wl_c7 hL hl c7 eH eM rv, wl_le R2 (by omega)⟩
  by_cases c8 : sw_xs G l % 32 = 8
  · obtain ⟨v, T2, eH, eM, rv, fm, R2⟩ := wb_op_first h
    exact ⟨T2, wl_c8 hL hl c8 eH eM rv, wl_le (wb_R_fr R2 (fun a ha => fm a (.inl ha)) (fun _ _ => rfl)) (by omega)⟩
  by_cases c9 : sw_xs G l % 32 = 9
  · obtain ⟨k, v, T1, T2, eH, eM, h0, hv, rk, rv, R2⟩ := wl_seq (FH := w176 T) (FM := fun Tm => w142 Tm) h (fun Tm hm => wb_op_obey hm)
    exact ⟨T2, wl_c9 hL hl c9 eH eM h0 hv rk rv, wl_le R2 (by omega)⟩
  by_cases c10 : sw_xs G l % 32 = 10
  · obtain ⟨v, T1, T2, eH, eM, rv, R2⟩ := wl_seq2 (FH := w69 T) (FM := fun Tm => w143 Tm) h (fun Tm hm => wb_op_keep hm (by omega))
    exact ⟨T2, wl_c10 hL hl c10 eH eM rv, wl_le R2 (by omega)⟩
  by_cases c11 : sw_xs G l % 32 = 11
  · obtain ⟨k, v, T1, T2, eH, eM, h0, hv, rk, rv, R2⟩ := wl_seq (FH := w177 T) (FM := fun Tm => w144 Tm) h (fun Tm hm => wb_op_back hm (by omega))
    exact ⟨T2, wl_c11 hL hl c11 eH eM h0 hv rk rv, wl_le R2 (by omega)⟩
  by_cases c12 : sw_xs G l % 32 = 12
  · obtain ⟨k, v, T1, T2, eH, eM, h0, hv, rk, rv, R2⟩ := wl_seq (FH := w178 T) (FM := fun Tm => w145 Tm) h (fun Tm hm => wb_op_undo hm)
    exact ⟨T2, wl_c12 hL hl c12 eH eM h0 hv rk rv, wl_le R2 (by omega)⟩
  by_cases c13 : sw_xs G l % 32 = 13
  · obtain ⟨k, v, T1, T2, eH, eM, h0, hv, rk, rv, R2⟩ := wl_seq (FH := w179 T (sw_xs G (l + 1)) (sw_xs G (l + 2))) (FM := fun Tm => w148 Tm (sw_xs G (l + 1)) (sw_xs G (l + 2))) h (fun Tm hm => wb_op_seam hm (by omega) wl_rg wl_rg)
    exact ⟨T2, wl_c13 hL hl c13 eH eM h0 hv rk rv, wl_le R2 (by omega)⟩
  by_cases c14 : sw_xs G l % 32 = 14
  · obtain ⟨k, v, T1, T2, eH, eM, h0, hv, rk, rv, R2⟩ := wl_seq (FH := w180 T (sw_xs G (l + 1)) (sw_xs G (l + 2))) (FM := fun Tm => w149 Tm (sw_xs G (l + 1)) (sw_xs G (l + 2))) h (fun Tm hm => wb_op_pile hm wl_rg wl_rg)
    exact ⟨T2, wl_c14 hL hl c14 eH eM h0 hv rk rv, wl_le R2 (by omega)⟩
  by_cases c15 : sw_xs G l % 32 = 15
  · obtain ⟨k, v, T1, T2, eH, eM, h0, hv, rk, rv, R2⟩ := wl_seq (FH := w181 T (sw_xs G (l + 1)) (sw_xs G (l + 2))) (FM := fun Tm => w150 Tm (sw_xs G (l + 1)) (sw_xs G (l + 2))) h (fun Tm hm => wb_op_shirt hm wl_rg wl_rg)
    exact ⟨T2, wl_c15 hL hl c15 eH eM h0 hv rk rv, wl_le R2 (by omega)⟩
  by_cases c16 : sw_xs G l % 32 = 16
  · obtain ⟨k, v, T1, T2, eH, eM, h0, hv, rk, rv, R2⟩ := wl_seq (FH := w182 T (sw_xs G (l + 1))) (FM := fun Tm => w152 Tm (sw_xs G (l + 1))) h (fun Tm hm => wb_op_count hm (by omega) wl_rg)
    exact ⟨T2, wl_c16 hL hl c16 eH eM h0 hv rk rv, wl_le R2 (by omega)⟩
  by_cases c17 : sw_xs G l % 32 = 17
  · obtain ⟨k, v, T1, T2, eH, eM, h0, hv, rk, rv, R2⟩ := wl_seq (FH := w183 T (sw_xs G (l + 1))) (FM := fun Tm => w153 Tm (sw_xs G (l + 1))) h (fun Tm hm => wb_op_setting hm wl_rg)
    exact ⟨T2, wl_c17 hL hl c17 eH eM h0 hv rk rv, wl_le R2 (by omega)⟩
  by_cases c18 : sw_xs G l % 32 = 18
  · obtain ⟨k, v, T1, T2, eH, eM, h0, hv, rk, rv, R2⟩ := wl_seq (FH := w184 T (sw_xs G (l + 1))) (FM := fun Tm => w154 Tm (sw_xs G (l + 1))) h (fun Tm hm => wb_op_choice hm wl_rg)
    exact ⟨T2, wl_c18 hL hl c18 eH eM h0 hv rk rv, wl_le R2 (by omega)⟩
  by_cases c19 : sw_xs G l % 32 = 19
  · obtain ⟨v, T1, T2, eH, eM, rv, R2⟩ := wl_seq2 (FH := w78 T) (FM := fun Tm => w157 Tm) h (fun Tm hm => wb_op_doneIn hm)
    exact ⟨T2, wl_c19 hL hl c19 eH eM rv, wl_le R2 (by omega)⟩
  by_cases c20 : sw_xs G l % 32 = 20
  · obtain ⟨v, T1, T2, eH, eM, rv, R2⟩ := wl_seq2 (FH := w79 T) (FM := fun Tm => w158 Tm) h (fun Tm hm => wb_op_alone hm)
    exact ⟨T2, wl_c20 hL hl c20 eH eM rv, wl_le R2 (by omega)⟩
  by_cases c21 : sw_xs G l % 32 = 21
  · obtain ⟨k, v, T1, T2, eH, eM, h0, hv, rk, rv, R2⟩ := wl_seq (FH := w185 T (sw_xs G (l + 1))) (FM := fun Tm => w159 Tm (sw_xs G (l + 1))) h (fun Tm hm => wb_op_with hm wl_rg)
    exact ⟨T2, wl_c21 hL hl c21 eH eM h0 hv rk rv, wl_le R2 (by omega)⟩
  by_cases c22 : sw_xs G l % 32 = 22
  · obtain ⟨k, v, T1, T2, eH, eM, h0, hv, rk, rv, R2⟩ := wl_seq (FH := w186 T (sw_xs G (l + 1)) (sw_xs G (l + 2))) (FM := fun Tm => w161 Tm (sw_xs G (l + 1)) (sw_xs G (l + 2))) h (fun Tm hm => wb_op_would hm (by omega) wl_rg wl_rg)
    exact ⟨T2, wl_c22 hL hl c22 eH eM h0 hv rk rv, wl_le R2 (by omega)⟩
  by_cases c23 : sw_xs G l % 32 = 23
  · have h0 := wb_R_k (k := 0) (v := 0) h (by decide)
    obtain ⟨x, e1, e2, hx⟩ := wb_share h0
    have eM : w163 T = some (x, sw_up T 221 0 0) := by
      unfold w163
      rw [wb_pf, Option.bind_some, e2, Option.bind_some]
    exact ⟨sw_up T 221 0 0, wl_c23 hL hl c23 e1 eM hx.1, wl_le (wb_R_fr h0 (fun a ha => sw_up_ne (by omega)) (fun _ _ => rfl)) (by omega)⟩
  by_cases c24 : sw_xs G l % 32 = 24
  · have h0 := wb_R_k (k := 0) (v := 0) h (by decide)
    obtain ⟨x, e1, e2, hx⟩ := wb_even h0
    have eM : w165 T = some (x, sw_up T 221 0 0) := by
      unfold w165
      rw [wb_pf, Option.bind_some, e2, Option.bind_some]
    exact ⟨sw_up T 221 0 0, wl_c24 hL hl c24 e1 eM hx.1, wl_le (wb_R_fr h0 (fun a ha => sw_up_ne (by omega)) (fun _ _ => rfl)) (by omega)⟩
  by_cases c25 : sw_xs G l % 32 = 25
  · obtain ⟨v, T1, -, e1, -, f1, -, -⟩ := wb_op_digest h (by omega)
    obtain ⟨v', T1', T2, g1, g2, -, g4, g5⟩ := wb_op_digest (wb_R_fr h (fun _ _ => rfl) f1) (by omega)
    have e := e1.symm.trans g1
    cases e
    exact ⟨T2, wl_c25 hL hl c25 e1 g2, wl_le (wb_R_fr g5 (fun a ha => g4 a (.inl ha)) (fun _ _ => rfl)) (by omega)⟩
  omega
theorem wl_loop {G : sp_G} (hL : G.2.1 ≤ 1536) : ∀ (k : Nat) (l N : Int) (T : sw_T), wb_R T T N → 0 ≤ l → (G.2.1 : Int) - l ≤ 3 * k → l ≤ 1536 → N + 56000 * k ≤ 80000000 → ∀ m, k < m → ∃ T', w187_23 G m T l = some (.inl T') := by
  intro k
  induction k with
  | zero =>
    intro l N T h hl hk hl2 hN m hm
    obtain ⟨m, rfl⟩ : ∃ q, m = q + 1 := ⟨m - 1, by omega⟩
    refine ⟨T, ?_⟩
    rw [w187_23, wb_r2 ⟨by omega, by omega⟩ ⟨by omega, by omega⟩, Option.bind_some, if_pos (by omega)]
  | succ k ih =>
    intro l N T h hl hk hl2 hN m hm
    obtain ⟨m, rfl⟩ : ∃ q, m = q + 1 := ⟨m - 1, by omega⟩
    by_cases hg : l + 3 ≤ G.2.1
    · obtain ⟨T2, e, R2⟩ := wl_step (m := m) hL ⟨hl, hg⟩ h (by omega)
      rw [e]
      exact ih (l + 3) (N + 56000) T2 R2 (by omega) (by omega) (by omega) (by omega) m (by omega)
    · refine ⟨T, ?_⟩
      rw [w187_23, wb_r2 ⟨by omega, by omega⟩ ⟨by omega, by omega⟩, Option.bind_some, if_pos (by omega)]
/-! the tables at the beginning -/
theorem wl_t1 : (sw_T0 2 0 = 20 ∧ sw_T0 2 1 = 0 ∧ sw_T0 2 2 = 3) ∧ (sw_T0 1 0 = 0 ∧ sw_T0 1 1 = 2 ∧ sw_T0 1 2 = 0 ∧ sw_T0 1 3 = 0 ∧ sw_T0 21 0 = 0) := by decide +kernel
theorem wl_t2 : ∀ w : Fin 7, sw_T0 3 w.val = 1 ∧ sw_T0 4 w.val = -1 ∧ sw_T0 5 w.val = 0 ∧ sw_T0 6 w.val = 0 ∧ sw_T0 7 w.val = 0 ∧ sw_T0 8 w.val = 0 ∧ sw_T0 9 w.val = 0 ∧ sw_T0 10 w.val = 0 ∧ sw_T0 12 w.val = 0 := by decide +kernel
theorem wl_t3 : ∀ j : Fin 26, sw_T0 222 j.val = wb_en sw_T0 1 j.val := by decide +kernel
theorem wl_t4 : (sw_T0 0 5 = 0 ∧ sw_T0 221 6 = 0) ∧ (sw_T0 73 1 = 0 ∧ sw_T0 221 4 = 0) ∧ (sw_T0 219 1 = 0 ∧ sw_T0 221 8 = 0) ∧ sw_T0 221 9 = 0 := by decide +kernel
theorem wl_t5 : sw_T0 74 0 = 75 ∧ sw_T0 74 1 = 99 ∧ sw_T0 74 2 = 123 ∧ sw_T0 74 3 = 147 ∧ sw_T0 74 4 = 171 ∧ sw_T0 74 5 = 195 := by decide +kernel
theorem wl_t2' {w : Int} (hw : 0 ≤ w ∧ w < 7) : sw_T0 3 w = 1 ∧ sw_T0 4 w = -1 ∧ sw_T0 5 w = 0 ∧ sw_T0 6 w = 0 ∧ sw_T0 7 w = 0 ∧ sw_T0 8 w = 0 ∧ sw_T0 9 w = 0 ∧ sw_T0 10 w = 0 ∧ sw_T0 12 w = 0 := by
  have := wl_t2 ⟨w.toNat, by omega⟩
  have e : ((w.toNat : Nat) : Int) = w := by omega
  rw [← e]
  exact this
theorem wl_iv : wb_iv sw_T0 1 0 := by
  obtain ⟨⟨a0, a1, a2⟩, b0, b1, b2, b3, c0⟩ := wl_t1
  have hct : ∀ (f : Int → Int) (k : Int), wb_ct f k (sw_T0 (1 + 20) 0).toNat = 0 := fun f k => by
    rw [show sw_T0 (1 + 20) 0 = 0 from c0]
    rfl
  have hs : ∀ t : Nat, (∀ w, 0 ≤ w ∧ w < 7 → sw_T0 t w = 0) → wb_s7 (sw_T0 t) = 0 := fun t h => by
    unfold wb_s7
    rw [h 0 (by decide), h 1 (by decide), h 2 (by decide), h 3 (by decide), h 4 (by decide), h 5 (by decide), h 6 (by decide)]
    rfl
  have h11 : wb_s7 (sw_T0 (1 + 11)) = 0 := hs 12 (fun w hw => (wl_t2' hw).2.2.2.2.2.2.2.2)
  have h6 : wb_s7 (sw_T0 (1 + 6)) = 0 := hs 7 (fun w hw => (wl_t2' hw).2.2.2.2.1)
  have h7 : wb_s7 (sw_T0 (1 + 7)) = 0 := hs 8 (fun w hw => (wl_t2' hw).2.2.2.2.2.1)
  have hhd : wb_s7 (wb_hd sw_T0 1) = 0 := by
    have hz : ∀ w, 0 ≤ w ∧ w < 7 → wb_hd sw_T0 1 w = 0 := fun w hw => if_pos (wl_t2' hw).2.1
    unfold wb_s7
    rw [hz 0 (by decide), hz 1 (by decide), hz 2 (by decide), hz 3 (by decide), hz 4 (by decide), hz 5 (by decide), hz 6 (by decide)]
    rfl
  have hc : sw_T0 (1 + 20) 0 = 0 := c0
  have e11 : ∀ w, 0 ≤ w ∧ w < 7 → sw_T0 (1 + 11) w = 0 := fun w hw => (wl_t2' hw).2.2.2.2.2.2.2.2
  refine ⟨⟨?_, ?_, ?_⟩, ⟨?_, ?_, ?_, ?_, ?_⟩, fun w hw => ?_, fun w hw => ?_, fun w j hw hj => ?_, fun w i j hw hi => ?_, fun s hs => ?_, ?_, ?_, ?_, ?_, ?_⟩
  · show 2 ≤ sw_T0 2 0 ∧ sw_T0 2 0 ≤ 99
    omega
  · show 0 ≤ sw_T0 2 1 ∧ sw_T0 2 1 ≤ 2
    omega
  · show 1 ≤ sw_T0 2 2 ∧ sw_T0 2 2 ≤ 20
    omega
  · omega
  · omega
  · omega
  · omega
  · omega
  · obtain ⟨d2, d3, d4, d5, d6, d7, d8, d9, d11⟩ := wl_t2' hw
    show (1 ≤ sw_T0 3 w ∧ sw_T0 3 w ≤ 9) ∧ (sw_T0 4 w = -1 ∨ _) ∧ (0 ≤ sw_T0 5 w ∧ sw_T0 5 w ≤ 20) ∧ (sw_T0 6 w = 0 ∨ sw_T0 6 w = 1) ∧ (0 ≤ sw_T0 7 w ∧ 0 ≤ sw_T0 8 w) ∧ (0 ≤ sw_T0 9 w ∧ sw_T0 9 w ≤ 0) ∧ (0 ≤ sw_T0 10 w ∧ sw_T0 10 w ≤ 0) ∧ (0 ≤ sw_T0 12 w ∧ sw_T0 12 w ≤ 16)
    exact ⟨by omega, .inl d3, by omega, .inl d5, by omega, by omega, by omega, by omega⟩
  · obtain ⟨d2, d3, d4, d5, d6, d7, d8, d9, d11⟩ := wl_t2' (w := w) ⟨by omega, hw.2⟩
    exact ⟨d3, d4, d5, d6, d7, d8, d9, d11⟩
  · rw [e11 w hw] at hj
    omega
  · rw [e11 w hw] at hi
    omega
  · rw [hc] at hs
    omega
  · rw [hct, h11]
  · rw [hct, hhd]
  · rw [hct, h6]
  · rw [h11, hc, b2]
    rfl
  · rw [h7, b2]
    exact Int.le_refl _
theorem wl_rp : wb_rp sw_T0 1 (sw_T0 222) := by
  obtain ⟨⟨a0, a1, a2⟩, b0, b1, b2, b3, c0⟩ := wl_t1
  have hc : sw_T0 (1 + 20) 0 = 0 := c0
  rintro j ⟨hj0, hj⟩
  rw [b1, hc] at hj
  have hj26 : j < 26 := by
    rcases hj with g | ⟨g1, g2, g3, g4⟩ | g
    · omega
    · rw [show sw_T0 (1 + 11) ((j - 71) / 16) = 0 from (wl_t2' (w := (j - 71) / 16) ⟨by omega, by omega⟩).2.2.2.2.2.2.2.2] at g4
      omega
    · omega
  have := wl_t3 ⟨j.toNat, by omega⟩
  have e : ((j.toNat : Nat) : Int) = j := by omega
  rw [← e]
  exact this
theorem wl_R0 : wb_R sw_T0 sw_T0 0 := by
  obtain ⟨⟨a1, a2⟩, ⟨b1, b2⟩, ⟨c1, c2⟩, d⟩ := wl_t4
  obtain ⟨k0, k1, k2, k3, k4, k5⟩ := wl_t5
  have hk : ∀ k, 0 ≤ k ∧ k < 6 → sw_T0 74 k = 75 + 24 * k := fun k hk => by
    have : k = 0 ∨ k = 1 ∨ k = 2 ∨ k = 3 ∨ k = 4 ∨ k = 5 := by omega
    rcases this with rfl | rfl | rfl | rfl | rfl | rfl
    · exact k0
    · exact k1
    · exact k2
    · exact k3
    · exact k4
    · exact k5
  refine ⟨⟨⟨wl_iv, ?_⟩, wl_rp⟩, ⟨by rw [a1, a2], .inl a1⟩, ⟨by rw [b1, b2], by rw [b1]; decide, ⟨fun k hk1 => ?_, fun i j hij => ?_⟩, fun k hk1 => ?_⟩, ⟨by rw [c1, c2], by rw [c1]; decide, fun i hi => ?_⟩, d⟩
  · have := wl_t1.2.2.1
    omega
  · rw [hk k hk1]
    unfold wb_hx
    omega
  · rw [hk i ⟨hij.1, by omega⟩, hk j ⟨by omega, hij.2.2⟩]
    omega
  · rw [b1] at hk1
    omega
  · rw [c1] at hi
    omega
/-- the law as a function over tables comes to 1 on every script -/
theorem wb_law (G : sp_G) (hL : G.2.1 ≤ 1536) : ∃ T', w187 G sw_T0 = some (1, T') := by
  obtain ⟨T', e⟩ := wl_loop hL 512 0 0 sw_T0 wl_R0 (by decide) (by omega) (by decide) (by decide) sw_N (by decide)
  refine ⟨T', ?_⟩
  unfold w187
  rw [e, Option.bind_some, wb_eli]
