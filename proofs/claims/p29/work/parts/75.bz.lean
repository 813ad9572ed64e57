/-! ===== class and reference: what holds between them; the saving of a state ===== -/
def wb_hx (x : Int) : Prop := x = 75 ∨ x = 99 ∨ x = 123 ∨ x = 147 ∨ x = 171 ∨ x = 195
/-- the six rooms of the history, each once -/
def wb_hp (T : sw_T) : Prop := (∀ k, 0 ≤ k ∧ k < 6 → wb_hx (T 74 k)) ∧ ∀ i j, 0 ≤ i ∧ i < j ∧ j < 6 → T 74 i ≠ T 74 j
/-- a room of the class's own: six seamstresses at most -/
def wb_iw (T : sw_T) (b : Nat) (N : Int) : Prop := wb_iv T b N ∧ T b 1 ≤ 6
theorem wb_iw_eq {T T' : sw_T} {b c : Nat} {N : Int} (I : wb_iw T b N) (h : wb_eq T b T' c) : wb_iw T' c N := ⟨wb_iv_eq I.1 h, by have e : T b 1 = T' c 1 := h 0 (by decide) 1 (by decide) (show (1 : Int) < 4 by decide); rw [← e]; exact I.2⟩
theorem wb_iw_fr {T T' : sw_T} {b : Nat} {N : Int} (I : wb_iw T b N) (h : ∀ t : Nat, t < 24 → T' (b + t) = T (b + t)) : wb_iw T' b N := wb_iw_eq I (wb_eq_of h)
theorem wb_iw_le {T : sw_T} {b : Nat} {N N' : Int} (I : wb_iw T b N) (h : N ≤ N') : wb_iw T b N' := ⟨wb_iv_le I.1 h, I.2⟩
def wb_hi (T : sw_T) (N c : Int) (S : Int → Int) : Prop := ∀ k, 0 ≤ k ∧ k < c → wb_iw T (T 74 k).toNat N ∧ wb_rp T (T 74 k).toNat (fun j => S (543 * k + j))
/-- the class in T, the reference in Tm -/
def wb_R (T Tm : sw_T) (N : Int) : Prop :=
  (wb_iw T 1 N ∧ wb_rp T 1 (Tm 222)) ∧
  (T 0 5 = Tm 221 6 ∧ (T 0 5 = 0 ∨ (T 0 5 = 1 ∧ wb_iw T 25 N ∧ wb_rp T 25 (Tm 225)))) ∧
  (T 73 1 = Tm 221 4 ∧ (0 ≤ T 73 1 ∧ T 73 1 ≤ 6) ∧ wb_hp T ∧ wb_hi T N (T 73 1) (Tm 224)) ∧
  (T 219 1 = Tm 221 8 ∧ (0 ≤ T 219 1 ∧ T 219 1 ≤ 60) ∧ ∀ i, 0 ≤ i ∧ i < T 219 1 → T 220 i = Tm 226 i ∧ 33 ≤ T 220 i ∧ T 220 i ≤ 126) ∧
  Tm 221 9 = 0
theorem wb_hx_rg {x : Int} (h : wb_hx x) : 75 ≤ x ∧ x ≤ 195 := by unfold wb_hx at h; omega
theorem wb_lr {T : sw_T} {a m : Nat} {j : Int} (h : 0 ≤ j ∧ j < m) (hx : wb_hx (T a j)) : sw_lr T a m j = some (T a j).toNat := by
  unfold sw_lr
  refine if_pos ⟨h, by have := wb_hx_rg hx; omega, ?_⟩
  rcases hx with e | e | e | e | e | e <;> rw [e] <;> decide
theorem wb_sr {T : sw_T} {a m : Nat} {j : Int} {r : Nat} (h : 0 ≤ j ∧ j < m) : sw_sr T a m j r = some (sw_up T a j r) := if_pos h
/-- two of the six lie apart -/
theorem wb_hx_ap {x y : Int} (hx : wb_hx x) (hy : wb_hx y) (h : x ≠ y) (t : Nat) (ht : t < 24) : x.toNat + t < y.toNat ∨ y.toNat + 24 ≤ x.toNat + t := by
  unfold wb_hx at hx hy
  omega
theorem wb_hi_fr {T T' : sw_T} {N N' c : Int} {S : Int → Int} (hp : wb_hp T) (h : wb_hi T N c S) (hN : N ≤ N') (hc : c ≤ 6) (h74 : T' 74 = T 74) (hT : ∀ k, 0 ≤ k ∧ k < c → ∀ t : Nat, t < 24 → T' ((T 74 k).toNat + t) = T ((T 74 k).toNat + t)) : wb_hi T' N' c S := fun k hk => by
  rw [h74]
  obtain ⟨I, R⟩ := h k hk
  exact ⟨wb_iw_le (wb_iw_fr I (hT k hk)) hN, wb_rp_fr I.1 R (hT k hk)⟩
/-- the room (and what is tried) has changed, the rest stands -/
theorem wb_R_room {T Tm T' Tm' : sw_T} {N N' : Int} (h : wb_R T Tm N) (hN : N ≤ N') (hT : ∀ a, a = 0 ∨ (25 ≤ a ∧ a < 49) ∨ (73 ≤ a ∧ a < 221) → T' a = T a) (hm : Tm' 224 = Tm 224 ∧ Tm' 225 = Tm 225 ∧ Tm' 226 = Tm 226 ∧ Tm' 221 4 = Tm 221 4 ∧ Tm' 221 6 = Tm 221 6 ∧ Tm' 221 8 = Tm 221 8 ∧ Tm' 221 9 = Tm 221 9) (J : wb_iw T' 1 N') (R : wb_rp T' 1 (Tm' 222)) : wb_R T' Tm' N' := by
  obtain ⟨m1, m2, m3, m4, m5, m6, m7⟩ := hm
  obtain ⟨-, ⟨a1, a2⟩, ⟨b1, b2, b3, b4⟩, ⟨c1, c2, c3⟩, d⟩ := h
  have h74 : T' 74 = T 74 := hT 74 (by decide)
  have h73 : T' 73 = T 73 := hT 73 (by decide)
  have h0 : T' 0 = T 0 := hT 0 (by decide)
  have h219 : T' 219 = T 219 := hT 219 (by decide)
  have h220 : T' 220 = T 220 := hT 220 (by decide)
  refine ⟨⟨J, R⟩, ⟨by rw [h0, m5]; exact a1, ?_⟩, ⟨by rw [h73, m4]; exact b1, by rw [h73]; exact b2, ?_, ?_⟩, ⟨by rw [h219, m6]; exact c1, by rw [h219]; exact c2, by rw [h219, h220, m3]; exact c3⟩, by rw [m7]; exact d⟩
  · rw [h0, m2]
    rcases a2 with q | ⟨q1, q2, q3⟩
    · exact .inl q
    · exact .inr ⟨q1, wb_iw_le (wb_iw_fr q2 (fun t ht => hT (25 + t) (by omega))) hN, wb_rp_fr q2.1 q3 (fun t ht => hT (25 + t) (by omega))⟩
  · unfold wb_hp
    rw [h74]
    exact b3
  · rw [h73, m1]
    exact wb_hi_fr b3 b4 hN b2.2 h74 (fun k hk t ht => hT _ (by
      have := wb_hx_rg (b3.1 k ⟨hk.1, by omega⟩)
      omega))
theorem wb_R_fr {T Tm T' Tm' : sw_T} {N : Int} (h : wb_R T Tm N) (hT : ∀ a, a < 221 → T' a = T a) (hm : ∀ a, 221 ≤ a ∧ a < 228 → Tm' a = Tm a) : wb_R T' Tm' N := by
  refine wb_R_room h (Int.le_refl _) (fun a ha => hT a (by omega)) ⟨hm 224 (by decide), hm 225 (by decide), hm 226 (by decide), by rw [hm 221 (by decide)], by rw [hm 221 (by decide)], by rw [hm 221 (by decide)], by rw [hm 221 (by decide)]⟩ (wb_iw_fr h.1.1 (fun t ht => hT (1 + t) (by omega))) ?_
  rw [hm 222 (by decide)]
  exact wb_rp_fr h.1.1.1 h.1.2 (fun t ht => hT (1 + t) (by omega))
/-- a state pushed -/
theorem wb_push {T Tm : sw_T} {N c : Int} (I : wb_iw T 1 N) (R : wb_rp T 1 (Tm 222)) (hc : T 73 1 = c) (hm : Tm 221 4 = c) (h6 : 0 ≤ c ∧ c < 6) (hp : wb_hp T) (hi : wb_hi T N c (Tm 224)) : ∃ T1 Tm1, w1_13 1 T = some T1 ∧ w105_50 Tm = some Tm1 ∧ T1 73 1 = c + 1 ∧ Tm1 221 4 = c + 1 ∧ T1 74 = T 74 ∧ wb_hi T1 N (c + 1) (Tm1 224) ∧ (∀ a, a < 73 ∨ 219 ≤ a → T1 a = T a) ∧ (∀ a, a ≠ 221 → a ≠ 224 → Tm1 a = Tm a) ∧ (∀ k, k ≠ 4 → Tm1 221 k = Tm 221 k) := by
  have hx := hp.1 c h6
  have hr := wb_hx_rg hx
  obtain ⟨X, e1, e2, e3⟩ := wb_copy (b := (T 74 c).toNat) (c := 1) I.1 (.inr (by omega))
  obtain ⟨Y, g1, g2, g3⟩ := wb_w105_52 hm h6
  have hX73 : X 73 1 = c := by rw [e2 73 (.inl (by omega)), hc]
  have hY221 : Y 221 = Tm 221 := g2 221 (by decide)
  refine ⟨sw_up X 73 1 (c + 1), sw_up Y 221 4 (c + 1), ?_, ?_, ?_, ?_, ?_, ?_, ?_, ?_, ?_⟩
  · unfold w1_13
    rw [hc, wb_lr ⟨h6.1, by omega⟩ hx, Option.bind_some, e1, Option.bind_some, wb_pf, Option.bind_some, hX73]
  · unfold w105_50
    rw [g1, Option.bind_some, wb_pf, Option.bind_some, hY221, hm]
  · rw [wb_rdu, if_pos rfl, if_pos rfl]
  · rw [wb_rdu, if_pos rfl, if_pos rfl]
  · rw [sw_up_ne (by decide), e2 74 (.inl (by omega))]
  · intro k hk
    rw [sw_up_ne (show 74 ≠ 73 by decide), e2 74 (.inl (by omega)), sw_up_ne (show 224 ≠ 221 by decide)]
    have hkx := hp.1 k ⟨hk.1, by omega⟩
    have hkr := wb_hx_rg hkx
    by_cases hkc : k = c
    · subst hkc
      have hs : wb_eq T 1 (sw_up X 73 1 (k + 1)) (T 74 k).toNat := fun t ht i hi1 hi2 => by
        rw [sw_up_ne (by omega)]
        exact e3 t ht i hi1 hi2
      refine ⟨wb_iw_eq I hs, wb_rp_eq I.1 hs (wb_rp_cg I.1 R (fun j hj => ?_))⟩
      show Y 224 (543 * k + j) = _
      rw [g3, if_pos (by omega), show 543 * k + j - 543 * k = j by omega]
    · obtain ⟨I1, R1⟩ := hi k ⟨hk.1, by omega⟩
      have hne : T 74 k ≠ T 74 c := hp.2 k c ⟨hk.1, by omega, h6.2⟩
      have hs : ∀ t : Nat, t < 24 → sw_up X 73 1 (c + 1) ((T 74 k).toNat + t) = T ((T 74 k).toNat + t) := fun t ht => by
        rw [sw_up_ne (by omega)]
        exact e2 _ (wb_hx_ap hkx hx hne t ht)
      refine ⟨wb_iw_fr I1 hs, wb_rp_cg (wb_iv_fr I1.1 hs) (wb_rp_fr I1.1 R1 hs) (fun j hj => ?_)⟩
      show Y 224 (543 * k + j) = _
      rw [g3, if_neg (by omega)]
  · intro a ha
    rw [sw_up_ne (by omega)]
    exact e2 a (by omega)
  · intro a h1 h2
    rw [sw_up_ne h1]
    exact g2 a h2
  · intro k hk
    rw [wb_rdu, if_pos rfl, if_neg hk, hY221]
/-- the oldest state dropped -/
theorem wb_w3 {T : sw_T} (hp : wb_hp T) : ∃ T1, w3 T = some T1 ∧ (∀ a, a ≠ 73 → a ≠ 74 → T1 a = T a) ∧ T1 73 1 = 5 ∧ (∀ k, T1 74 k = if 0 ≤ k ∧ k < 5 then T 74 (k + 1) else if k = 5 then T 74 0 else T 74 k) := by
  have key : ∃ X, w3_9 (T 74 0).toNat sw_N T 1 = some X ∧ (∀ a, a ≠ 74 → X a = T a) ∧ ∀ i, X 74 i = if 0 ≤ i ∧ i < 6 - 1 then T 74 (i + 1) else T 74 i := by
    have key2 : ∃ X, w3_9 (T 74 0).toNat sw_N T 1 = some X ∧ (1 ≤ (6 : Int) ∧ (∀ a, a ≠ 74 → X a = T a) ∧ ∀ i, X 74 i = if 0 ≤ i ∧ i < 6 - 1 then T 74 (i + 1) else T 74 i) := by
     refine wb_loop (f := w3_9 (T 74 0).toNat) (n := 6) (fun l X => 1 ≤ l ∧ (∀ a, a ≠ 74 → X a = T a) ∧ ∀ i, X 74 i = if 0 ≤ i ∧ i < l - 1 then T 74 (i + 1) else T 74 i) ?_ ?_ 5 1 T (by decide) (by decide) ⟨by decide, fun _ _ => rfl, fun i => by rw [if_neg (by omega)]⟩ sw_N (by decide)
     · rintro m X l ⟨h0, h1, h2⟩ hl h6
       have e : X 74 l = T 74 l := by rw [h2, if_neg (by omega)]
       have hx : wb_hx (X 74 l) := by rw [e]; exact hp.1 l ⟨hl, h6⟩
       have hr := wb_hx_rg hx
       refine ⟨sw_up X 74 (l - 1) (X 74 l), ?_, by omega, fun a ha => by rw [sw_up_ne ha]; exact h1 a ha, fun i => ?_⟩
       · rw [w3_9, wb_r2 ⟨by omega, by omega⟩ (by decide), Option.bind_some, if_pos h6, wb_lr ⟨hl, by omega⟩ hx, Option.bind_some, wb_sr ⟨by omega, by omega⟩, Option.bind_some, show ((X 74 l).toNat : Int) = X 74 l by omega]
       · rw [wb_rdu, if_pos rfl]
         by_cases hi : i = l - 1
         · rw [if_pos hi, if_pos (by omega), e, show i + 1 = l by omega]
         · rw [if_neg hi, h2]
           by_cases h3 : 0 ≤ i ∧ i < l - 1
           · rw [if_pos h3, if_pos (by omega)]
           · rw [if_neg h3, if_neg (by omega)]
     · rintro m X ⟨h0, h1, h2⟩
       rw [w3_9, wb_r2 (by decide) (by decide), Option.bind_some, if_neg (by decide)]
    obtain ⟨X, e, -, h1, h2⟩ := key2
    exact ⟨X, e, h1, h2⟩
  obtain ⟨X, e, h1, h2⟩ := key
  have hx0 := hp.1 0 (by decide)
  have hr := wb_hx_rg hx0
  refine ⟨sw_up (sw_up X 74 5 (T 74 0)) 73 1 5, ?_, ?_, ?_, ?_⟩
  · unfold w3
    rw [wb_lr (by decide) hx0, Option.bind_some, e, Option.bind_some, wb_sr (by decide), Option.bind_some, wb_pf, Option.bind_some, show ((T 74 0).toNat : Int) = T 74 0 by omega]
  · intro a ha hb
    rw [sw_up_ne ha, sw_up_ne hb]
    exact h1 a hb
  · rw [wb_rdu, if_pos rfl, if_pos rfl]
  · intro k
    rw [sw_up_ne (by decide), wb_rdu, if_pos rfl, h2]
    by_cases h5 : k = 5
    · rw [if_pos h5, if_neg (show ¬ (0 ≤ k ∧ k < 5) by omega), if_pos h5]
    · rw [if_neg h5, if_neg h5]
      rfl
