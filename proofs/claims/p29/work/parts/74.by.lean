/-! ===== a room elsewhere is a room; the reference's rows copied ===== -/
theorem wb_ct_cg {f g : Int → Int} {c : Int} : ∀ n : Nat, (∀ j : Nat, j < n → f j = g j) → wb_ct f c n = wb_ct g c n := by
  intro n
  induction n with
  | zero => intro _; rfl
  | succ n ih =>
    intro h
    unfold wb_ct
    rw [ih (fun j hj => h j (by omega)), h n (Nat.lt_succ_self n)]
theorem wb_s7_cg {f g : Int → Int} (h : ∀ w, 0 ≤ w ∧ w < 7 → f w = g w) : wb_s7 f = wb_s7 g := by
  unfold wb_s7
  rw [h 0 (by decide), h 1 (by decide), h 2 (by decide), h 3 (by decide), h 4 (by decide), h 5 (by decide), h 6 (by decide)]
theorem wb_iv_eq {T T' : sw_T} {b c : Nat} {N : Int} (I : wb_iv T b N) (h : wb_eq T b T' c) : wb_iv T' c N := by
  obtain ⟨i1, i2, i7, i8, i9, i10, i11, i12⟩ := I
  have g0 : ∀ i, 0 ≤ i ∧ i < 4 → T b i = T' c i := fun i hi => h 0 (by decide) i hi.1 hi.2
  have g1 : ∀ i, 0 ≤ i ∧ i < 3 → T (b + 1) i = T' (c + 1) i := fun i hi => h 1 (by decide) i hi.1 hi.2
  have gs : ∀ t : Nat, (2 ≤ t ∧ t < 10) ∨ t = 11 → ∀ w, 0 ≤ w ∧ w < 7 → T (b + t) w = T' (c + t) w := fun t ht w hw => h t (by omega) w hw.1 (by
    unfold wb_dm
    rw [if_neg (by omega), if_neg (by omega)]
    (repeat' split) <;> omega)
  have gp : ∀ w j, 0 ≤ w ∧ w < 7 → 0 ≤ j ∧ j < 16 → wb_pi T b w j = wb_pi T' c w j := fun w j hw hj => by
    have := h (13 + w.toNat) (by omega) j hj.1 (by
      unfold wb_dm
      rw [if_neg (by omega), if_neg (by omega), if_neg (by omega), if_neg (by omega), if_neg (by omega), if_pos (by omega)]
      exact hj.2)
    unfold wb_pi
    rw [show b + 13 + w.toNat = b + (13 + w.toNat) by omega, show c + 13 + w.toNat = c + (13 + w.toNat) by omega]
    exact this
  have gc : T (b + 20) 0 = T' (c + 20) 0 := h 20 (by decide) 0 (by decide) (show (0 : Int) < 1 by decide)
  have gh : ∀ t : Nat, 21 ≤ t ∧ t < 24 → ∀ s, 0 ≤ s ∧ s < T (b + 20) 0 → T (b + t) s = T' (c + t) s := fun t ht s hs => h t ht.2 s hs.1 (by
    unfold wb_dm
    rw [if_neg (by omega), if_neg (by omega), if_neg (by omega), if_neg (by omega), if_neg (by omega), if_neg (by omega), if_neg (by omega)]
    exact hs.2)
  refine ⟨by rw [← g1 0 (by decide), ← g1 1 (by decide), ← g1 2 (by decide)]; exact i1, by rw [← g0 0 (by decide), ← g0 1 (by decide), ← g0 2 (by decide), ← g0 3 (by decide), ← gc]; exact i2, ?_, ?_, ?_, ?_, ?_, ?_⟩
  · intro w hw
    obtain ⟨p1, p2, p3⟩ := i7 w hw
    unfold wb_se
    rw [← gs 2 (by decide) w hw, ← gs 3 (by decide) w hw, ← gs 4 (by decide) w hw, ← gs 5 (by decide) w hw, ← gs 6 (by decide) w hw, ← gs 7 (by decide) w hw, ← gs 8 (by decide) w hw, ← gs 9 (by decide) w hw, ← gs 11 (by decide) w hw, ← gc]
    refine ⟨p1, ?_, p3⟩
    rcases p2 with q | ⟨q1, q2, q3, q4⟩
    · exact .inl q
    · exact .inr ⟨q1, q2, by rw [← gh 22 (by decide) _ ⟨q1, q2⟩]; exact q3, by rw [← gh 23 (by decide) _ ⟨q1, q2⟩]; exact q4⟩
  · intro w hw
    rw [← g0 1 (by decide)] at hw
    have hw7 : 0 ≤ w ∧ w < 7 := ⟨by omega, hw.2⟩
    have := i8 w hw
    unfold wb_cl at this ⊢
    rw [← gs 3 (by decide) w hw7, ← gs 4 (by decide) w hw7, ← gs 5 (by decide) w hw7, ← gs 6 (by decide) w hw7, ← gs 7 (by decide) w hw7, ← gs 8 (by decide) w hw7, ← gs 9 (by decide) w hw7, ← gs 11 (by decide) w hw7]
    exact this
  · intro w j hw hj
    rw [← gs 11 (by decide) w hw] at hj
    have h16 := (i7 w hw).2.2.2.2.2.2.2
    obtain ⟨p, q, r⟩ := i9 w j hw hj
    rw [← gp w j hw ⟨hj.1, by omega⟩, ← gc]
    exact ⟨p, by rw [← gh 22 (by decide) _ p]; exact q, by rw [← gh 23 (by decide) _ p]; exact r⟩
  · intro w i j hw hi
    rw [← gs 11 (by decide) w hw] at hi
    have h16 := (i7 w hw).2.2.2.2.2.2.2
    rw [← gp w i hw ⟨hi.1, by omega⟩, ← gp w j hw ⟨by omega, by omega⟩]
    exact i10 w i j hw hi
  · intro x hx
    rw [← gc] at hx
    rw [← gh 21 (by decide) x hx, ← gh 22 (by decide) x hx, ← gh 23 (by decide) x hx]
    exact i11 x hx
  · have hd : wb_s7 (wb_hd T' c) = wb_s7 (wb_hd T b) := wb_s7_cg (fun w hw => by
      unfold wb_hd
      rw [← gs 3 (by decide) w hw])
    have hc : ∀ k, wb_ct (T' (c + 22)) k (T (b + 20) 0).toNat = wb_ct (T (b + 22)) k (T (b + 20) 0).toNat := fun k => wb_ct_cg _ (fun j hj => (gh 22 (by decide) j ⟨by omega, by omega⟩).symm)
    have h6 : wb_s7 (T' (c + 6)) = wb_s7 (T (b + 6)) := wb_s7_cg (fun w hw => (gs 6 (by decide) w hw).symm)
    have h7 : wb_s7 (T' (c + 7)) = wb_s7 (T (b + 7)) := wb_s7_cg (fun w hw => (gs 7 (by decide) w hw).symm)
    have h11 : wb_s7 (T' (c + 11)) = wb_s7 (T (b + 11)) := wb_s7_cg (fun w hw => (gs 11 (by decide) w hw).symm)
    rw [← gc, hc, hc, hc, hd, h6, h7, h11, ← g0 2 (by decide)]
    exact i12
theorem wb_i_dm {c j : Int} (h0 : 0 ≤ j) (hc : 0 ≤ c) (h : j < 183 + 3 * c) : 0 ≤ wb_i j ∧ wb_i j < wb_dm c (wb_k j) := by
  by_cases h1 : j < 3
  · unfold wb_k wb_i
    rw [if_pos h1, if_pos h1]
    exact ⟨h0, h1⟩
  · by_cases h2 : j < 8
    · have : j = 3 ∨ j = 4 ∨ j = 5 ∨ j = 6 ∨ j = 7 := by omega
      rcases this with rfl | rfl | rfl | rfl | rfl
      · exact ⟨by decide, show (0 : Int) < 4 by decide⟩
      · exact ⟨by decide, show (1 : Int) < 4 by decide⟩
      · exact ⟨by decide, show (0 : Int) < 1 by decide⟩
      · exact ⟨by decide, show (3 : Int) < 4 by decide⟩
      · exact ⟨by decide, show (2 : Int) < 4 by decide⟩
    · by_cases h3 : j < 71
      · unfold wb_k wb_i
        rw [if_neg h1, if_neg h2, if_pos h3, if_neg h1, if_neg h2, if_pos h3]
        refine ⟨by omega, ?_⟩
        unfold wb_dm
        (repeat' split) <;> omega
      · by_cases h4 : j < 183
        · unfold wb_k wb_i
          rw [if_neg h1, if_neg h2, if_neg h3, if_pos h4, if_neg h1, if_neg h2, if_neg h3, if_pos h4]
          refine ⟨by omega, ?_⟩
          unfold wb_dm
          (repeat' split) <;> omega
        · unfold wb_k wb_i
          rw [if_neg h1, if_neg h2, if_neg h3, if_neg h4, if_neg h1, if_neg h2, if_neg h3, if_neg h4]
          refine ⟨by omega, ?_⟩
          unfold wb_dm
          (repeat' split) <;> omega
theorem wb_rl_lt {T : sw_T} {b : Nat} {N j : Int} (I : wb_iv T b N) (h : wb_rl T b j) : 0 ≤ j ∧ j < 183 + 3 * T (b + 20) 0 := by
  have h1 : 2 ≤ T b 1 ∧ T b 1 ≤ 7 := I.2.1.2.1
  have hc := I.2.1.2.2.2.2
  obtain ⟨h0, h⟩ := h
  refine ⟨h0, ?_⟩
  rcases h with g | ⟨g1, g2, g3, g4⟩ | g <;> omega
theorem wb_rp_eq {T T' : sw_T} {b c : Nat} {N : Int} {M : Int → Int} (I : wb_iv T b N) (h : wb_eq T b T' c) (R : wb_rp T b M) : wb_rp T' c M := by
  have h1 : 2 ≤ T b 1 ∧ T b 1 ≤ 7 := I.2.1.2.1
  have hc := I.2.1.2.2.2.2
  rintro j ⟨hj0, hj⟩
  have g1 : T b 1 = T' c 1 := h 0 (by decide) 1 (by decide) (show (1 : Int) < 4 by decide)
  have gc : T (b + 20) 0 = T' (c + 20) 0 := h 20 (by decide) 0 (by decide) (show (0 : Int) < 1 by decide)
  have hjr : wb_rl T b j := by
    refine ⟨hj0, ?_⟩
    rw [← g1, ← gc] at hj
    rcases hj with g | ⟨g1, g2, g3, g4⟩ | g
    · exact .inl g
    · refine .inr (.inl ⟨g1, g2, g3, ?_⟩)
      rw [h 11 (by decide) ((j - 71) / 16) (by omega) (show (j - 71) / 16 < 7 by omega)]
      exact g4
    · exact .inr (.inr g)
  have hlt := wb_rl_lt I hjr
  obtain ⟨d1, d2⟩ := wb_i_dm (c := T (b + 20) 0) hj0 hc.1 hlt.2
  rw [R j hjr]
  unfold wb_en
  rw [h (wb_k j) (wb_k_lt hj0) (wb_i j) d1 d2]
theorem wb_rp_cg {T : sw_T} {b : Nat} {N : Int} {M M' : Int → Int} (I : wb_iv T b N) (R : wb_rp T b M) (h : ∀ j, 0 ≤ j ∧ j < 543 → M' j = M j) : wb_rp T b M' := fun j hj => by
  have hc := I.2.1.2.2.2.2
  have := wb_rl_lt I hj
  rw [h j ⟨this.1, by omega⟩]
  exact R j hj
theorem wb_eq_of {T T' : sw_T} {b : Nat} (h : ∀ t : Nat, t < 24 → T' (b + t) = T (b + t)) : wb_eq T b T' b := fun t ht i _ _ => by rw [h t ht]
theorem wb_iv_fr {T T' : sw_T} {b : Nat} {N : Int} (I : wb_iv T b N) (h : ∀ t : Nat, t < 24 → T' (b + t) = T (b + t)) : wb_iv T' b N := wb_iv_eq I (wb_eq_of h)
theorem wb_rp_fr {T T' : sw_T} {b : Nat} {N : Int} {M : Int → Int} (I : wb_iv T b N) (R : wb_rp T b M) (h : ∀ t : Nat, t < 24 → T' (b + t) = T (b + t)) : wb_rp T' b M := wb_rp_eq I (wb_eq_of h) R
/-- a row copied -/
theorem wb_flat {f : Nat → sw_T → Int → Option sw_T} {T : sw_T} {d s : Nat} {od os : Int} (n : Nat) (hds : s ≠ d ∨ od ≤ os) (hs : ∀ (m : Nat) (X : sw_T) (l : Int), (∀ a, a ≠ d → X a = T a) → 0 ≤ l → l < n → f (m + 1) X l = f m (sw_up X d (od + l) (X s (os + l))) (l + 1)) (he : ∀ (m : Nat) (X : sw_T), (∀ a, a ≠ d → X a = T a) → f (m + 1) X n = some X) (m : Nat) (hm : n < m) : ∃ T1, f m T 0 = some T1 ∧ (∀ a, a ≠ d → T1 a = T a) ∧ ∀ i, T1 d i = if od ≤ i ∧ i < od + n then T s (os + (i - od)) else T d i := by
  refine wb_loop (f := f) (n := n) (fun l X => (∀ a, a ≠ d → X a = T a) ∧ ∀ i, X d i = if od ≤ i ∧ i < od + l then T s (os + (i - od)) else T d i) ?_ ?_ n 0 T (by decide) (by omega) ⟨fun _ _ => rfl, fun i => by rw [if_neg (by omega)]⟩ m hm
  · rintro m X l ⟨hf, hd⟩ hl hn
    refine ⟨_, hs m X l hf hl hn, fun a ha => by rw [sw_up_ne ha]; exact hf a ha, fun i => ?_⟩
    rw [wb_rdu, if_pos rfl]
    by_cases hi : i = od + l
    · rw [if_pos hi, if_pos (by omega), show os + (i - od) = os + l by omega]
      by_cases hsd : s = d
      · rw [hsd, hd, if_neg (by omega)]
      · rw [hf s hsd]
    · rw [if_neg hi, hd]
      by_cases h2 : od ≤ i ∧ i < od + l
      · rw [if_pos h2, if_pos (by omega)]
      · rw [if_neg h2, if_neg (by omega)]
  · rintro m X ⟨hf, hd⟩
    exact he m X hf
theorem wb_w106 {T : sw_T} : ∃ T1, w106 T = some T1 ∧ (∀ a, a ≠ 223 → T1 a = T a) ∧ ∀ i, 0 ≤ i ∧ i < 543 → T1 223 i = T 222 i := by
  obtain ⟨T1, e, h1, h2⟩ := wb_flat (f := w106_2) (T := T) (d := 223) (s := 222) (od := 0) (os := 0) 543 (.inl (by decide)) (fun m X l hX hl hn => by
    rw [w106_2, wb_r2 ⟨by omega, by omega⟩ (by decide), Option.bind_some, if_pos (by omega), wb_ld ⟨hl, hn⟩, Option.bind_some, wb_st ⟨hl, hn⟩, Option.bind_some, Int.zero_add]) (fun m X hX => by
    rw [w106_2, wb_r2 (by decide) (by decide), Option.bind_some, if_neg (by decide)]) sw_N (by decide)
  refine ⟨T1, ?_, h1, fun i hi => ?_⟩
  · unfold w106
    rw [e, Option.bind_some]
  · rw [h2, if_pos ⟨hi.1, by omega⟩, show (0 : Int) + (i - 0) = i by omega]
theorem wb_w107 {T : sw_T} : ∃ T1, w107 T = some T1 ∧ (∀ a, a ≠ 222 → T1 a = T a) ∧ ∀ i, 0 ≤ i ∧ i < 543 → T1 222 i = T 223 i := by
  obtain ⟨T1, e, h1, h2⟩ := wb_flat (f := w107_2) (T := T) (d := 222) (s := 223) (od := 0) (os := 0) 543 (.inl (by decide)) (fun m X l hX hl hn => by
    rw [w107_2, wb_r2 ⟨by omega, by omega⟩ (by decide), Option.bind_some, if_pos (by omega), wb_ld ⟨hl, hn⟩, Option.bind_some, wb_st ⟨hl, hn⟩, Option.bind_some, Int.zero_add]) (fun m X hX => by
    rw [w107_2, wb_r2 (by decide) (by decide), Option.bind_some, if_neg (by decide)]) sw_N (by decide)
  refine ⟨T1, ?_, h1, fun i hi => ?_⟩
  · unfold w107
    rw [e, Option.bind_some]
  · rw [h2, if_pos ⟨hi.1, by omega⟩, show (0 : Int) + (i - 0) = i by omega]
theorem wb_w143_7 {T : sw_T} : ∃ T1, w143_7 sw_N T 0 = some T1 ∧ (∀ a, a ≠ 225 → T1 a = T a) ∧ ∀ i, 0 ≤ i ∧ i < 543 → T1 225 i = T 222 i := by
  obtain ⟨T1, e, h1, h2⟩ := wb_flat (f := w143_7) (T := T) (d := 225) (s := 222) (od := 0) (os := 0) 543 (.inl (by decide)) (fun m X l hX hl hn => by
    rw [w143_7, wb_r2 ⟨by omega, by omega⟩ (by decide), Option.bind_some, if_pos (by omega), wb_ld ⟨hl, hn⟩, Option.bind_some, wb_st ⟨hl, hn⟩, Option.bind_some, Int.zero_add]) (fun m X hX => by
    rw [w143_7, wb_r2 (by decide) (by decide), Option.bind_some, if_neg (by decide)]) sw_N (by decide)
  refine ⟨T1, e, h1, fun i hi => ?_⟩
  rw [h2, if_pos ⟨hi.1, by omega⟩, show (0 : Int) + (i - 0) = i by omega]
theorem wb_w144_24 {T : sw_T} : ∃ T1, w144_24 sw_N T 0 = some T1 ∧ (∀ a, a ≠ 222 → T1 a = T a) ∧ ∀ i, 0 ≤ i ∧ i < 543 → T1 222 i = T 225 i := by
  obtain ⟨T1, e, h1, h2⟩ := wb_flat (f := w144_24) (T := T) (d := 222) (s := 225) (od := 0) (os := 0) 543 (.inl (by decide)) (fun m X l hX hl hn => by
    rw [w144_24, wb_r2 ⟨by omega, by omega⟩ (by decide), Option.bind_some, if_pos (by omega), wb_ld ⟨hl, hn⟩, Option.bind_some, wb_st ⟨hl, hn⟩, Option.bind_some, Int.zero_add]) (fun m X hX => by
    rw [w144_24, wb_r2 (by decide) (by decide), Option.bind_some, if_neg (by decide)]) sw_N (by decide)
  refine ⟨T1, e, h1, fun i hi => ?_⟩
  rw [h2, if_pos ⟨hi.1, by omega⟩, show (0 : Int) + (i - 0) = i by omega]
theorem wb_w145_30 {T : sw_T} {k : Int} (hk : T 221 4 = k) (hk6 : 0 ≤ k ∧ k < 6) : ∃ T1, w145_30 sw_N T 0 = some T1 ∧ (∀ a, a ≠ 222 → T1 a = T a) ∧ ∀ i, 0 ≤ i ∧ i < 543 → T1 222 i = T 224 (543 * k + i) := by
  obtain ⟨T1, e, h1, h2⟩ := wb_flat (f := w145_30) (T := T) (d := 222) (s := 224) (od := 0) (os := 543 * k) 543 (.inl (by decide)) (fun m X l hX hl hn => by
    rw [w145_30, wb_r2 ⟨by omega, by omega⟩ (by decide), Option.bind_some, if_pos (by omega), hX 221 (by decide), hk, wb_ld ⟨by omega, by omega⟩, Option.bind_some, wb_st ⟨hl, hn⟩, Option.bind_some, Int.zero_add]) (fun m X hX => by
    rw [w145_30, wb_r2 (by decide) (by decide), Option.bind_some, if_neg (by decide)]) sw_N (by decide)
  refine ⟨T1, e, h1, fun i hi => ?_⟩
  rw [h2, if_pos ⟨hi.1, by omega⟩, show 543 * k + (i - 0) = 543 * k + i by omega]
theorem wb_w105_52 {T : sw_T} {k : Int} (hk : T 221 4 = k) (hk6 : 0 ≤ k ∧ k < 6) : ∃ T1, w105_52 sw_N T 0 = some T1 ∧ (∀ a, a ≠ 224 → T1 a = T a) ∧ ∀ i, T1 224 i = if 543 * k ≤ i ∧ i < 543 * k + 543 then T 222 (i - 543 * k) else T 224 i := by
  obtain ⟨T1, e, h1, h2⟩ := wb_flat (f := w105_52) (T := T) (d := 224) (s := 222) (od := 543 * k) (os := 0) 543 (.inl (by decide)) (fun m X l hX hl hn => by
    rw [w105_52, wb_r2 ⟨by omega, by omega⟩ (by decide), Option.bind_some, if_pos (by omega), wb_ld ⟨hl, hn⟩, Option.bind_some, hX 221 (by decide), hk, wb_st ⟨by omega, by omega⟩, Option.bind_some, Int.zero_add]) (fun m X hX => by
    rw [w105_52, wb_r2 (by decide) (by decide), Option.bind_some, if_neg (by decide)]) sw_N (by decide)
  refine ⟨T1, e, h1, fun i => ?_⟩
  rw [h2, Int.zero_add]
  rfl
theorem wb_w105_11 {T : sw_T} : ∃ T1, w105_11 sw_N T 0 = some T1 ∧ (∀ a, a ≠ 224 → T1 a = T a) ∧ ∀ i, T1 224 i = if 0 ≤ i ∧ i < 2715 then T 224 (i + 543) else T 224 i := by
  obtain ⟨T1, e, h1, h2⟩ := wb_flat (f := w105_11) (T := T) (d := 224) (s := 224) (od := 0) (os := 543) 2715 (.inr (by decide)) (fun m X l hX hl hn => by
    rw [w105_11, wb_r2 ⟨by omega, by omega⟩ (by decide), Option.bind_some, if_pos (by omega), wb_ld ⟨by omega, by omega⟩, Option.bind_some, wb_st ⟨by omega, by omega⟩, Option.bind_some, Int.zero_add, Int.add_comm l 543]) (fun m X hX => by
    rw [w105_11, wb_r2 (by decide) (by decide), Option.bind_some, if_neg (by decide)]) sw_N (by decide)
  refine ⟨T1, e, h1, fun i => ?_⟩
  rw [h2, Int.zero_add, show 543 + (i - 0) = i + 543 by omega]
  rfl
