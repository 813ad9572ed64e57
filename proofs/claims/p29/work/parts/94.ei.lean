/-! ===== the law's turns ===== -/
theorem wq_cell {G : sp_G} {T : sw_T} {p : Int} (hL : G.2.1 ≤ 1536) (hp : 0 ≤ p ∧ p ≤ 63) : ∃ v, w200 G T p = some v ∧ wb_rg v := by
  unfold w200
  rw [wb_r2 ⟨by omega, by omega⟩ ⟨by omega, by omega⟩, Option.bind_some]
  by_cases h : p < (G.2.1 : Int)
  · rw [if_pos h, wb_ix ⟨hp.1, h⟩, Option.bind_some]
    exact ⟨_, rfl, Int32.le_toInt _, Int32.toInt_lt _⟩
  · rw [if_neg h]
    have h1 : 0 ≤ (7919 * (p + 3)) * (p + 11) := Int.mul_nonneg (by omega) (by omega)
    have h2 : (7919 * (p + 3)) * (p + 11) ≤ (7919 * 66) * 74 := Int.mul_le_mul (by omega) (by omega) (by omega) (by decide)
    exact ⟨_, rfl, by omega, by omega⟩
theorem wq_54 {G : sp_G} {T : sw_T} {N : Int} {M K : Int → Int} (S : wq_S T N M K) {a b c d : Int} : ∀ m, 0 < m → ∃ X M', w205_54 G a b c d m T = some X ∧ wq_S X N M' K ∧ X 73 1 < 6 := by
  intro m hm
  obtain ⟨m, rfl⟩ : ∃ q, m = q + 1 := ⟨m - 1, by omega⟩
  have hc := S.2.2.1
  rw [w205_54, wq_c11, Option.bind_some, wb_eli, wb_r2 ⟨by omega, by omega⟩ (by decide), Option.bind_some]
  by_cases h6 : T 73 1 = 6
  · rw [if_pos h6]
    obtain ⟨v, X, M1, e1, S1, c1⟩ := wq_undo0 S (by omega)
    obtain ⟨u, Y, M2, e2, S2, c2⟩ := wq_undo0 S1 (by omega)
    rw [e1, Option.bind_some, wb_eli]
    show ∃ Z M', ((w71 X).bind fun r28 => sw_el r28 (fun r29 => some r29.2) (fun _ => none)) = some Z ∧ _
    rw [e2, Option.bind_some, wb_eli]
    exact ⟨Y, M2, rfl, S2, by omega⟩
  · rw [if_neg h6]
    exact ⟨T, M, rfl, S, by omega⟩
theorem wq_S_le {T : sw_T} {N N' : Int} {M K : Int → Int} (S : wq_S T N M K) (h : N ≤ N') : wq_S T N' M K := ⟨⟨wq_r_le S.1.1 h, S.1.2⟩, wq_sn_fr S.2.1 h rfl (fun _ _ => rfl), wq_hs_fr S.2.2 h (fun _ _ => rfl)⟩
theorem wq_told_S {T : sw_T} {N : Int} {M K : Int → Int} (S : wq_S T N M K) (hN : N ≤ 100000000) : w202 T = some (wq_told M) := wq_told_ok S.1.1.1.1 S.1.2 hN
theorem wq_112 {G : sp_G} {T : sw_T} {l2 l4 l5 l6 l7 l8 l9 l11 l12 : Int} (h11 : wb_rg l11) (hc : 0 ≤ T 73 1 ∧ T 73 1 ≤ 6) (h : (l11 = -9 ∧ l12 = l9 ∧ T 73 1 = l7) ∨ (l11 ≠ -9 ∧ T 73 1 = l7 + 1)) : ∀ m, 0 < m → w205_112 G T l2 l4 l5 l6 l7 l8 l9 l11 l12 m = some (.inl ()) := by
  intro m hm
  obtain ⟨m, rfl⟩ : ∃ q, m = q + 1 := ⟨m - 1, by omega⟩
  rw [w205_112, wb_r2 h11 (by decide), Option.bind_some]
  rcases h with ⟨q1, q2, q3⟩ | ⟨q1, q2⟩
  · rw [if_pos q1, if_pos q2, wq_c11, Option.bind_some, wb_eli, wb_r2 ⟨by omega, by omega⟩ ⟨by omega, by omega⟩, Option.bind_some, if_pos q3]
  · rw [if_neg q1, wq_c11, Option.bind_some, wb_eli, wb_r2 ⟨by omega, by omega⟩ ⟨by omega, by omega⟩, Option.bind_some, if_pos q2]
theorem wq_163 {G : sp_G} {T : sw_T} {N l2 l4 l5 l6 l7 l8 l9 l11 l12 l14 : Int} (I : wb_iv T 1 N) (h14 : 0 ≤ l14 ∧ l14 < 16) (h : 3 < l14 ∧ l14 < 9 → wb_s7 (T 7) = l8 + l11) : ∀ m, 0 < m → w205_163 G T l2 l4 l5 l6 l7 l8 l9 l11 l12 l14 m = some (.inl ()) := by
  intro m hm
  obtain ⟨m, rfl⟩ : ∃ q, m = q + 1 := ⟨m - 1, by omega⟩
  have hs : 0 ≤ wb_s7 (T 7) ∧ wb_s7 (T 7) ≤ T 21 0 := wb_s7_sewn I
  have hcc : 0 ≤ T 21 0 ∧ T 21 0 ≤ 120 := I.2.1.2.2.2.2
  rw [w205_163, wb_r2 ⟨by omega, by omega⟩ (by decide), Option.bind_some]
  by_cases h3 : 3 < l14
  · rw [if_pos h3, wb_r2 ⟨by omega, by omega⟩ (by decide), Option.bind_some]
    by_cases h9 : l14 < 9
    · have e := h ⟨h3, h9⟩
      rw [if_pos h9, wq_c3 I, Option.bind_some, wb_eli, wb_r2 ⟨by omega, by omega⟩ ⟨by omega, by omega⟩, Option.bind_some, if_pos e]
    · rw [if_neg h9]
  · rw [if_neg h3]
/-- undone and done again: the same -/
theorem wq_191 {G : sp_G} {T T2 : sw_T} {N c v w got l2 l4 : Int} {M K M2 : Int → Int} (S : wq_S T N M K) (hN : N ≤ 90000000) (hc : T 73 1 = c) (h6 : c < 6) (hv : wb_rg v) (hw : wb_rg w) (hg : wb_rg got) (ea : wq_act M v w = some (got, M2)) (h : (got = -9 ∧ T2 = T ∧ M2 = M) ∨ (0 ≤ got ∧ wq_S T2 (N + 800) M2 K ∧ wq_sv T T2 c)) : ∀ m, 0 < m → ∃ X, w205_191 G l2 l4 v w c (wq_told M) got (wq_told M2) m T2 = some (.inl X) ∧ wq_S X (N + 800) M2 K := by
  intro m hm
  obtain ⟨m, rfl⟩ : ∃ q, m = q + 1 := ⟨m - 1, by omega⟩
  have hc0 := S.2.2.1
  have hv' : -2147483648 ≤ v ∧ v < 2147483648 := hv
  rw [w205_191, wb_r2 hg (by decide), Option.bind_some]
  rcases h with ⟨q1, rfl, rfl⟩ | ⟨q1, q2, q3⟩
  · rw [if_neg (by omega)]
    exact ⟨_, rfl, wq_S_le S (by omega)⟩
  · rw [if_pos (by omega), wb_r1 hv, Option.bind_some, wb_r1 ⟨by omega, by omega⟩, Option.bind_some]
    by_cases hb : (v / 256) % 2 = 0
    · rw [if_pos hb]
      obtain ⟨X, e1, SX, cX⟩ := wq_undo S hc h6 q2 q3
      obtain ⟨g2, T3, M3, a1, a2, a3, a4, -⟩ := wq_act_ok SX cX h6 hv hw
      rw [ea] at a2
      cases a2
      have S3 : wq_S T3 (N + 800) M2 K := by
        rcases a4 with ⟨z, -, -⟩ | ⟨-, z, -⟩
        · omega
        · exact z
      rw [e1, Option.bind_some, wb_eli]
      show ∃ Z, ((sw_r2 c c).bind fun _u => if c = c then (w202 X).bind fun r107 => if r107 = wq_told M then (w203 X v w).bind fun r111 => (sw_r2 r111.1 got).bind fun _u => if r111.1 = got then (w202 r111.2).bind fun r115 => if r115 = wq_told M2 then some (Sum.inl r111.2) else (sw_l2 r115 (wq_told M2)).bind fun _u => some (Sum.inr ((0, r111.2))) else some (Sum.inr ((0, r111.2))) else (sw_l2 r107 (wq_told M)).bind fun _u => some (Sum.inr ((0, X))) else some (Sum.inr ((0, X)))) = some (Sum.inl Z) ∧ wq_S Z (N + 800) M2 K
      rw [wb_r2 ⟨by omega, by omega⟩ ⟨by omega, by omega⟩, Option.bind_some, if_pos rfl, wq_told_S SX (by omega), Option.bind_some, if_pos rfl, a1, Option.bind_some]
      show ∃ Z, ((sw_r2 got got).bind fun _u => if got = got then (w202 T3).bind fun r115 => if r115 = wq_told M2 then some (Sum.inl T3) else (sw_l2 r115 (wq_told M2)).bind fun _u => some (Sum.inr ((0, T3))) else some (Sum.inr ((0, T3)))) = some (Sum.inl Z) ∧ wq_S Z (N + 800) M2 K
      rw [wb_r2 hg hg, Option.bind_some, if_pos rfl, wq_told_S S3 (by omega), Option.bind_some, if_pos rfl]
      exact ⟨T3, rfl, S3⟩
    · rw [if_neg hb]
      exact ⟨_, rfl, q2⟩
theorem wq_252 {G : sp_G} {T : sw_T} {N l2 l4 l5 l12 : Int} {M K : Int → Int} (S : wq_S T N M K) (hN : N ≤ 90000000) (h4 : 0 ≤ l4 ∧ l4 < 32) : ∀ m, 0 < m → ∃ X, w205_252 G l2 l4 l5 l12 m T = some (.inl X) ∧ wq_S X N M K := by
  intro m hm
  obtain ⟨m, rfl⟩ : ∃ q, m = q + 1 := ⟨m - 1, by omega⟩
  rw [w205_252, wb_dv ⟨⟨by omega, by omega⟩, by decide⟩, Option.bind_some, wb_r2 ⟨by omega, by omega⟩ (by decide), Option.bind_some]
  by_cases h : l4 % 2 = 1
  · obtain ⟨X, e, S2, -⟩ := wq_holds S (by omega)
    rw [if_pos h, e, Option.bind_some]
    show ∃ Z, ((sw_r1 1).bind fun _u => if (1 : Int) = 0 then some (Sum.inr ((0, X))) else some (Sum.inl X)) = some (Sum.inl Z) ∧ wq_S Z N M K
    rw [wb_r1 (by decide), Option.bind_some, if_neg (by decide)]
    exact ⟨X, rfl, S2⟩
  · rw [if_neg h]
    exact ⟨T, rfl, S⟩
theorem wq_269 {G : sp_G} {T : sw_T} {N l4 l5 : Int} {M K : Int → Int} (S : wq_S T N M K) (hN : N ≤ 90000000) (h5 : wb_rg l5) : ∀ m, 0 < m → ∃ X K', w205_269 G l4 l5 (wq_told M) m T (wq_told K) = some (.inl (X, wq_told K')) ∧ wq_S X N M K' := by
  intro m hm
  obtain ⟨m, rfl⟩ : ∃ q, m = q + 1 := ⟨m - 1, by omega⟩
  have h5' : -2147483648 ≤ l5 ∧ l5 < 2147483648 := h5
  have hc := S.2.2.1
  rw [w205_269, wb_r1 h5, Option.bind_some, wb_r1 ⟨by omega, by omega⟩, Option.bind_some]
  by_cases h0 : (l5 / 512) % 8 = 0
  · obtain ⟨X, e, S2, -⟩ := wq_keep (K := K) S.1.1 S.1.2 S.2.2
    rw [if_pos h0, e, Option.bind_some]
    exact ⟨X, M, rfl, S2⟩
  · rw [if_neg h0, Option.bind_some, wb_r2 ⟨by omega, by omega⟩ (by decide), Option.bind_some]
    by_cases h1 : (l5 / 512) % 8 = 1
    · rw [if_pos h1, wq_c11, Option.bind_some, wb_eli, wb_r2 ⟨by omega, by omega⟩ (by decide), Option.bind_some]
      by_cases h6 : T 73 1 < 6
      · obtain ⟨X, e1, S2, s⟩ := wq_back S rfl h6
        obtain ⟨Y, e2, S3, c3⟩ := wq_undo S rfl h6 S2 s
        have hm0 : 0 ≤ X 1 0 ∧ X 1 0 ≤ N := S2.1.1.1.1.2.1.1
        rw [if_pos h6, e1, Option.bind_some, wb_eli]
        show ∃ Z K', ((w75 X 0).bind fun r156 => sw_el r156 (fun r157 => (sw_r2 (X 1 0) r157).bind fun _u => if X 1 0 = r157 then (w202 X).bind fun r164 => if r164 = wq_told K then (w71 X).bind fun r168 => sw_el r168 (fun r169 => (sw_r1 r169.1).bind fun _u => if r169.1 < 0 then some (Sum.inr ((0, r169.2))) else (w202 r169.2).bind fun r176 => if r176 = wq_told M then some (Sum.inl (r169.2, wq_told K)) else (sw_l2 r176 (wq_told M)).bind fun _u => some (Sum.inr ((0, r169.2)))) (fun E170 => none) else (sw_l2 r164 (wq_told K)).bind fun _u => some (Sum.inr ((0, X))) else some (Sum.inr ((0, X)))) (fun E158 => none)) = some (Sum.inl (Z, wq_told K')) ∧ wq_S Z N M K'
        rw [wq_c0, Option.bind_some, wb_eli, wb_r2 ⟨by omega, by omega⟩ ⟨by omega, by omega⟩, Option.bind_some, if_pos rfl, wq_told_S S2 (by omega), Option.bind_some, if_pos rfl, e2, Option.bind_some, wb_eli]
        show ∃ Z K', ((sw_r1 (T 73 1)).bind fun _u => if T 73 1 < 0 then some (Sum.inr ((0, Y))) else (w202 Y).bind fun r176 => if r176 = wq_told M then some (Sum.inl (Y, wq_told K)) else (sw_l2 r176 (wq_told M)).bind fun _u => some (Sum.inr ((0, Y)))) = some (Sum.inl (Z, wq_told K')) ∧ wq_S Z N M K'
        rw [wb_r1 ⟨by omega, by omega⟩, Option.bind_some, if_neg (by omega), wq_told_S S3 (by omega), Option.bind_some, if_pos rfl]
        exact ⟨Y, K, rfl, S3⟩
      · rw [if_neg h6]
        exact ⟨T, K, rfl, S⟩
    · rw [if_neg h1]
      exact ⟨T, K, rfl, S⟩
theorem wq_turn {G : sp_G} (hL : G.2.1 ≤ 1536) : ∀ (k l : Nat), l + k = 32 → ∀ (m : Nat), k < m → ∀ (T : sw_T) (M K : Int → Int), wq_S T (800 * l) M K → ∃ X, w205_25 G m T (wq_told K) l = some (.inl X) := by
  intro k
  induction k with
  | zero =>
    intro l hl m hm T M K S
    obtain ⟨m, rfl⟩ : ∃ q, m = q + 1 := ⟨m - 1, by omega⟩
    rw [w205_25, wb_r2 ⟨by omega, by omega⟩ (by decide), Option.bind_some, if_neg (by omega)]
    exact ⟨T, rfl⟩
  | succ k ih =>
    intro l hl m hm T M K S
    obtain ⟨m, rfl⟩ : ∃ q, m = q + 1 := ⟨m - 1, by omega⟩
    obtain ⟨v, ev, hv⟩ := wq_cell (G := G) (T := T) (p := 2 * l) hL ⟨by omega, by omega⟩
    obtain ⟨w, ew, hw⟩ := wq_cell (G := G) (T := T) (p := 2 * l + 1) hL ⟨by omega, by omega⟩
    obtain ⟨T0, M0, e0, S0, c0⟩ := wq_54 (G := G) S (a := wq_told K) (b := l) (c := v) (d := w) sw_N (by decide)
    have hc := S0.2.2.1
    obtain ⟨got, T2, M2, a1, a2, a3, a4, a5⟩ := wq_act_ok S0 rfl c0 hv hw
    have hv' : -2147483648 ≤ v ∧ v < 2147483648 := hv
    obtain ⟨S2, c2⟩ : wq_S T2 (800 * l + 800) M2 K ∧ ((got = -9 ∧ wq_told M2 = wq_told M0 ∧ T2 73 1 = T0 73 1) ∨ (got ≠ -9 ∧ T2 73 1 = T0 73 1 + 1)) := by
      rcases a4 with ⟨z1, z2, z3⟩ | ⟨z1, z2, z3⟩
      · rw [z2, z3]
        exact ⟨wq_S_le S0 (by omega), .inl ⟨z1, rfl, rfl⟩⟩
      · exact ⟨z2, .inr ⟨by omega, z3.2.1⟩⟩
    obtain ⟨T3, e3, S3⟩ := wq_191 (G := G) (l2 := wq_told K) (l4 := l) S0 (by omega) rfl c0 hv hw a3 a2 a4 sw_N (by decide)
    obtain ⟨T4, e4, S4⟩ := wq_252 (G := G) (l2 := wq_told K) (l4 := l) (l5 := v) (l12 := wq_told M2) S3 (by omega) ⟨by omega, by omega⟩ sw_N (by decide)
    obtain ⟨T5, K5, e5, S5⟩ := wq_269 (G := G) (l4 := l) (l5 := v) S4 (by omega) hv sw_N (by decide)
    obtain ⟨X, eX⟩ := ih (l + 1) (by omega) m (by omega) T5 M2 K5 (by rw [show (800 : Int) * ((l + 1 : Nat) : Int) = 800 * l + 800 by omega]; exact S5)
    refine ⟨X, ?_⟩
    rw [w205_25, wb_r2 ⟨by omega, by omega⟩ (by decide), Option.bind_some, if_pos (by omega), ev, Option.bind_some, ew, Option.bind_some, e0, Option.bind_some, wq_c11, Option.bind_some, wb_eli, wq_c3 S0.1.1.1.1, Option.bind_some, wb_eli, wq_told_S S0 (by omega), Option.bind_some, a1, Option.bind_some]
    show ((w202 T2).bind fun r52 => (w205_112 G T2 (wq_told K) l v w (T0 73 1) (wb_s7 (T0 7)) (wq_told M0) got r52 sw_N).bind fun x73 => sw_el x73 (fun x75 => (w205_163 G T2 (wq_told K) l v w (T0 73 1) (wb_s7 (T0 7)) (wq_told M0) got r52 (v % 16) sw_N).bind fun x89 => sw_el x89 (fun x91 => (w205_191 G (wq_told K) l v w (T0 73 1) (wq_told M0) got r52 sw_N T2).bind fun x118 => sw_el x118 (fun x120 => (w205_252 G (wq_told K) l v r52 sw_N x120).bind fun x129 => sw_el x129 (fun x131 => (w205_269 G l v r52 sw_N x131 (wq_told K)).bind fun x179 => sw_el x179 (fun x181 => w205_25 G m x181.1 x181.2 (l + 1)) (fun r => some (.inr r))) (fun r => some (.inr r))) (fun r => some (.inr r))) (fun r => some (.inr r))) (fun r => some (.inr r))) = some (.inl X)
    rw [wq_told_S S2 (by omega), Option.bind_some, wq_112 a3 (S2.2.2.1) c2 sw_N (by decide), Option.bind_some, wb_eli, wq_163 S2.1.1.1.1 ⟨by omega, by omega⟩ a5 sw_N (by decide), Option.bind_some, wb_eli, e3, Option.bind_some, wb_eli, e4, Option.bind_some, wb_eli, e5, Option.bind_some, wb_eli]
    exact eX
