/-! ===== more of a room: who holds a shirt is awake, a shirt's work is 0 when it is sewn; the sum of all work never grows in a minute ===== -/
def we_sw (f : Int → Int) : Nat → Int
  | 0 => 0
  | k + 1 => we_sw f k + f k
theorem we_sw_cg {f g : Int → Int} : ∀ k : Nat, (∀ j : Nat, j < k → f j = g j) → we_sw f k = we_sw g k := by
  intro k
  induction k with
  | zero => intro _; rfl
  | succ k ih =>
    intro h
    unfold we_sw
    rw [ih (fun j hj => h j (by omega)), h k (by omega)]
theorem we_sw_out {f : Int → Int} {s v : Int} (k : Nat) (h : (k : Int) ≤ s ∨ s < 0) : we_sw (sw_ui f s v) k = we_sw f k :=
  we_sw_cg k (fun j hj => if_neg (by omega))
theorem we_sw_ui {f : Int → Int} {s v : Int} : ∀ k : Nat, 0 ≤ s → s < k → we_sw (sw_ui f s v) k = we_sw f k - f s + v := by
  intro k
  induction k with
  | zero => intro h1 h2; omega
  | succ k ih =>
    intro h1 h2
    unfold we_sw
    by_cases hs : s = k
    · subst hs
      rw [we_sw_out k (Or.inl (Int.le_refl _))]
      have : sw_ui f k v k = v := if_pos rfl
      rw [this]
      omega
    · rw [ih h1 (by omega)]
      have : sw_ui f s v k = f k := if_neg (by omega)
      rw [this]
      omega
theorem we_sw_nn {f : Int → Int} : ∀ k : Nat, (∀ j : Nat, j < k → 0 ≤ f j) → 0 ≤ we_sw f k := by
  intro k
  induction k with
  | zero => intro _; exact Int.le_refl _
  | succ k ih =>
    intro h
    unfold we_sw
    have := ih (fun j hj => h j (by omega))
    have := h k (by omega)
    omega
/-- all the work of a room -/
def we_W (T : sw_T) (b : Nat) : Int := we_sw (T (b + 21)) (T (b + 20) 0).toNat
def we_E (T : sw_T) (b : Nat) : Prop := (∀ w, 0 ≤ w ∧ w < 7 → T (b + 3) w ≠ -1 → T (b + 5) w = 0) ∧ (∀ s, 0 ≤ s ∧ s < T (b + 20) 0 → (T (b + 21) s = 0 ↔ T (b + 22) s = 2))
theorem we_E_cg {T T' : sw_T} {b : Nat} (E : we_E T b) (h3 : T' (b + 3) = T (b + 3)) (h5 : T' (b + 5) = T (b + 5)) (h20 : T' (b + 20) = T (b + 20)) (h21 : T' (b + 21) = T (b + 21)) (h22 : T' (b + 22) = T (b + 22)) : we_E T' b := by
  unfold we_E
  rw [h3, h5, h20, h21, h22]
  exact E
theorem we_W_cg {T T' : sw_T} {b : Nat} (h20 : T' (b + 20) = T (b + 20)) (h21 : T' (b + 21) = T (b + 21)) : we_W T' b = we_W T b := by
  unfold we_W
  rw [h20, h21]
/-- both kept -/
def we_k (T T' : sw_T) (b : Nat) : Prop := we_E T' b ∧ we_W T' b = we_W T b
theorem we_k_up {T T' : sw_T} {b a : Nat} {i v : Int} (h : we_k T T' b) (ha : a ≠ b + 3 ∧ a ≠ b + 5 ∧ a ≠ b + 20 ∧ a ≠ b + 21 ∧ a ≠ b + 22) : we_k T (sw_up T' a i v) b :=
  ⟨we_E_cg h.1 (sw_up_ne (by omega)) (sw_up_ne (by omega)) (sw_up_ne (by omega)) (sw_up_ne (by omega)) (sw_up_ne (by omega)), (we_W_cg (sw_up_ne (by omega)) (sw_up_ne (by omega))).trans h.2⟩
theorem we_k_wake {T T' : sw_T} {b : Nat} {i : Int} (h : we_k T T' b) : we_k T (sw_up T' (b + 5) i 0) b := by
  refine ⟨⟨fun w hw hh => ?_, fun s hs => ?_⟩, (we_W_cg (sw_up_ne (by omega)) (sw_up_ne (by omega))).trans h.2⟩
  · rw [sw_up_ne (by omega)] at hh
    rw [wb_rdu, if_pos rfl]
    split
    · rfl
    · exact h.1.1 w hw hh
  · rw [sw_up_ne (by omega)] at hs
    rw [sw_up_ne (by omega), sw_up_ne (by omega)]
    exact h.1.2 s hs
theorem we_wkf {T T' : sw_T} {b : Nat} (h : we_k T T' b) : we_k T (wb_wkf T' b) b := by
  unfold wb_wkf
  split
  · exact we_k_up (we_k_wake h) (by omega)
  · exact h
theorem we_rou {T : sw_T} {b : Nat} {w : Int} (E : we_E T b) : we_k T (wb_rou T b w) b := by
  unfold wb_rou
  exact we_k_up (we_k_wake ⟨E, rfl⟩) (by omega)
/-- a shirt more -/
theorem we_lay {T : sw_T} {b : Nat} {w k : Int} (E : we_E T b) (hw : 0 ≤ w ∧ w < 7) (hc : 0 ≤ T (b + 20) 0) (hk : 1 ≤ k) : we_E (wb_lay T b w k) b ∧ we_W (wb_lay T b w k) b = we_W T b + k := by
  obtain ⟨-, -, -, h3, -, h5⟩ := wb_lay_rd (T := T) (b := b) (k := k) hw
  have hwn : w.toNat < 7 := by omega
  have h20 : ∀ i, wb_lay T b w k (b + 20) i = if i = 0 then T (b + 20) 0 + 1 else T (b + 20) i := fun i => by
    unfold wb_lay
    rw [sw_up_ne (by omega), sw_up_ne (by omega), wb_rdu, if_pos rfl, sw_up_ne (by omega), sw_up_ne (by omega), sw_up_ne (by omega)]
  have h21 : wb_lay T b w k (b + 21) = sw_ui (T (b + 21)) (T (b + 20) 0) k := by
    unfold wb_lay
    rw [sw_up_ne (by omega), sw_up_ne (by omega), sw_up_ne (by omega), sw_up_ne (by omega), sw_up_ne (by omega), sw_up_eq]
  have h22 : wb_lay T b w k (b + 22) = sw_ui (T (b + 22)) (T (b + 20) 0) 0 := by
    unfold wb_lay
    rw [sw_up_ne (by omega), sw_up_ne (by omega), sw_up_ne (by omega), sw_up_ne (by omega), sw_up_eq, sw_up_ne (by omega)]
  refine ⟨⟨fun x hx hh => ?_, fun s hs => ?_⟩, ?_⟩
  · rw [h3] at hh
    rw [h5]
    exact E.1 x hx hh
  · rw [h20, if_pos rfl] at hs
    rw [h21, h22]
    unfold sw_ui
    by_cases q : s = T (b + 20) 0
    · rw [if_pos q, if_pos q]
      omega
    · rw [if_neg q, if_neg q]
      exact E.2 s ⟨hs.1, by omega⟩
  · unfold we_W
    rw [h20, if_pos rfl, h21, show (T (b + 20) 0 + 1).toNat = (T (b + 20) 0).toNat + 1 by omega]
    show we_sw _ (T (b + 20) 0).toNat + sw_ui (T (b + 21)) (T (b + 20) 0) k _ = _
    rw [we_sw_out _ (Or.inl (by omega))]
    have : sw_ui (T (b + 21)) (T (b + 20) 0) k ((T (b + 20) 0).toNat : Nat) = k := if_pos (by omega)
    rw [this]
theorem we_com {T : sw_T} {b : Nat} {w k : Int} (E : we_E T b) (hw : 0 ≤ w ∧ w < 7) (hc : 0 ≤ T (b + 20) 0) (hk : 1 ≤ k) : we_E (wb_com T b w k) b ∧ we_W (wb_com T b w k) b = we_W T b + k := by
  obtain ⟨h1, h2⟩ := we_lay E hw hc hk
  obtain ⟨h3, h4⟩ := we_wkf (T := wb_lay T b w k) ⟨h1, rfl⟩
  exact ⟨h3, h4.trans h2⟩
theorem we_tk0 {T : sw_T} {b : Nat} {w s : Int} (E : we_E T b) (hs : 0 ≤ s ∧ s < T (b + 20) 0) (h0 : T (b + 22) s = 0) (ha : T (b + 5) w = 0) : we_k T (wb_tk0 T b w s) b := by
  have e3 : ∀ i, wb_tk0 T b w s (b + 3) i = if i = w then s else T (b + 3) i := fun i => by
    unfold wb_tk0
    rw [sw_up_ne (by omega), sw_up_ne (by omega), sw_up_ne (by omega), sw_up_ne (by omega), wb_rdu, if_pos rfl]
  have e22 : ∀ i, wb_tk0 T b w s (b + 22) i = if i = s then 1 else T (b + 22) i := fun i => by
    unfold wb_tk0
    rw [sw_up_ne (by omega), wb_rdu, if_pos rfl, sw_up_ne (by omega), sw_up_ne (by omega), sw_up_ne (by omega)]
  obtain ⟨-, -, e5, -, e20, e21⟩ := wb_tk0_rd (T := T) (b := b) (w := w) (s := s)
  refine ⟨⟨fun x hx hh => ?_, fun x hx => ?_⟩, we_W_cg e20 e21⟩
  · rw [e3] at hh
    rw [e5]
    by_cases q : x = w
    · rw [q]; exact ha
    · rw [if_neg q] at hh
      exact E.1 x hx hh
  · rw [e20] at hx
    rw [e21, e22]
    by_cases q : x = s
    · rw [if_pos q, q]
      have := E.2 s hs
      omega
    · rw [if_neg q]
      exact E.2 x hx
theorem we_tak {T : sw_T} {b : Nat} {w s : Int} (E : we_E T b) (hw : 0 ≤ w ∧ w < 7) (hl : 2 ≤ T (b + 1) 0) (hs : 0 ≤ s ∧ s < T (b + 20) 0) (h0 : T (b + 22) s = 0) (ha : T (b + 5) w = 0) : we_k T (wb_tak T b w s) b := by
  obtain ⟨k1, k2⟩ := we_tk0 E hs h0 ha
  unfold wb_tak
  split
  · rename_i hd
    obtain ⟨-, -, e5, -, e20, e21⟩ := wb_tk0_rd (T := T) (b := b) (w := w) (s := s)
    have f3 : wb_tk1 T b w s (b + 3) = wb_tk0 T b w s (b + 3) := by unfold wb_tk1; rw [sw_up_ne (by omega), sw_up_ne (by omega)]
    have f5 : wb_tk1 T b w s (b + 5) = wb_tk0 T b w s (b + 5) := by unfold wb_tk1; rw [sw_up_ne (by omega), sw_up_ne (by omega)]
    have f20 : wb_tk1 T b w s (b + 20) = wb_tk0 T b w s (b + 20) := by unfold wb_tk1; rw [sw_up_ne (by omega), sw_up_ne (by omega)]
    have f22 : wb_tk1 T b w s (b + 22) = wb_tk0 T b w s (b + 22) := by unfold wb_tk1; rw [sw_up_ne (by omega), sw_up_ne (by omega)]
    have f21 : wb_tk1 T b w s (b + 21) = sw_ui (T (b + 21)) s (T (b + 21) s - T (b + 21) s / 2) := by
      unfold wb_tk1
      rw [sw_up_ne (by omega), sw_up_eq, e21]
    have E1 : we_E (wb_tk1 T b w s) b := by
      refine ⟨fun x hx hh => ?_, fun x hx => ?_⟩
      · rw [f3] at hh
        rw [f5]
        exact k1.1 x hx hh
      · rw [f20] at hx
        have := k1.2 x hx
        rw [f22, f21]
        rw [e21] at this
        unfold sw_ui
        by_cases q : x = s
        · subst q
          rw [if_pos rfl]
          omega
        · rw [if_neg q]
          exact this
    have W1 : we_W (wb_tk1 T b w s) b = we_W T b - T (b + 21) s / 2 := by
      unfold we_W
      rw [f21, f20, e20, we_sw_ui _ hs.1 (by omega)]
      omega
    obtain ⟨q1, q2⟩ := we_com (T := wb_tk1 T b w s) (w := w) (k := T (b + 21) s / 2) E1 hw (by rw [f20, e20]; omega) (by omega)
    exact ⟨q1, by rw [q2, W1]; omega⟩
  · exact ⟨k1, k2⟩
theorem we_sew {T : sw_T} {b : Nat} {N w : Int} (I : wb_iv T b N) (E : we_E T b) (hw : 0 ≤ w ∧ w < 7) (hh : T (b + 3) w ≠ -1) : we_E (wb_sew T b w) b ∧ we_W (wb_sew T b w) b ≤ we_W T b := by
  obtain ⟨h2, ⟨hha, -⟩⟩ : (1 ≤ T (b + 2) w ∧ T (b + 2) w ≤ 9) ∧ (0 ≤ T (b + 3) w ∧ T (b + 3) w < T (b + 20) 0 ∧ T (b + 22) (T (b + 3) w) = 1 ∧ T (b + 23) (T (b + 3) w) = w) ∧ True := by
    obtain ⟨q1, q2, -⟩ := I.2.2.1 w hw
    rcases q2 with q2 | q2
    · exact absurd q2 hh
    · exact ⟨q1, q2, trivial⟩
  obtain ⟨s0, s1, s2, s3⟩ := hha
  have hk := (I.2.2.2.2.2.2.1 _ ⟨s0, s1⟩).1
  have hE := E.2 _ ⟨s0, s1⟩
  generalize hs : T (b + 3) w = s at s0 s1 s2 s3 hk hE hh
  unfold wb_sew
  rw [hs]
  split
  · refine ⟨⟨fun x hx q => ?_, fun x hx => ?_⟩, ?_⟩
    · rw [sw_up_ne (by omega)] at q ⊢
      exact E.1 x hx q
    · rw [sw_up_ne (by omega)] at hx
      rw [wb_rdu, if_pos rfl, sw_up_ne (by omega)]
      by_cases q : x = s
      · rw [if_pos q, q]
        omega
      · rw [if_neg q]
        exact E.2 x hx
    · have e20 : sw_up T (b + 21) s (T (b + 21) s - T (b + 2) w) (b + 20) = T (b + 20) := sw_up_ne (by omega)
      unfold we_W
      rw [sw_up_eq, e20, we_sw_ui _ s0 (by omega)]
      omega
  · refine ⟨⟨fun x hx q => ?_, fun x hx => ?_⟩, ?_⟩
    · rw [sw_up_ne (by omega), wb_rdu, if_pos rfl, sw_up_ne (by omega), sw_up_ne (by omega), sw_up_ne (by omega)] at q
      rw [sw_up_ne (by omega), sw_up_ne (by omega), sw_up_ne (by omega), sw_up_ne (by omega), sw_up_ne (by omega)]
      by_cases qw : x = w
      · rw [if_pos qw] at q
        exact absurd rfl q
      · rw [if_neg qw] at q
        exact E.1 x hx q
    · rw [sw_up_ne (by omega), sw_up_ne (by omega), sw_up_ne (by omega), sw_up_ne (by omega), sw_up_ne (by omega)] at hx
      rw [sw_up_ne (by omega), sw_up_ne (by omega), sw_up_ne (by omega), sw_up_ne (by omega), wb_rdu, if_pos rfl, sw_up_ne (by omega), sw_up_ne (by omega), sw_up_ne (by omega), wb_rdu, if_pos rfl, sw_up_ne (by omega)]
      by_cases q : x = s
      · rw [if_pos q, if_pos q]
        omega
      · rw [if_neg q, if_neg q]
        exact E.2 x hx
    · have e20 : ∀ i v, sw_up (sw_up (sw_up (sw_up (sw_up T (b + 21) s 0) (b + 22) s 2) (b + 23) s w) (b + 3) w (-1)) (b + 6) i v (b + 20) = T (b + 20) := fun i v => by
        rw [sw_up_ne (by omega), sw_up_ne (by omega), sw_up_ne (by omega), sw_up_ne (by omega), sw_up_ne (by omega)]
      have e21 : ∀ i v, sw_up (sw_up (sw_up (sw_up (sw_up T (b + 21) s 0) (b + 22) s 2) (b + 23) s w) (b + 3) w (-1)) (b + 6) i v (b + 21) = sw_ui (T (b + 21)) s 0 := fun i v => by
        rw [sw_up_ne (by omega), sw_up_ne (by omega), sw_up_ne (by omega), sw_up_ne (by omega), sw_up_eq]
      unfold we_W
      rw [e21, e20, we_sw_ui _ s0 (by omega)]
      omega
theorem we_mis {T : sw_T} {b : Nat} {w : Int} (E : we_E T b) (hh : T (b + 3) w = -1) : we_k T (wb_mis T b w) b := by
  unfold wb_mis
  split
  · exact we_k_up (we_k_up ⟨E, rfl⟩ (by omega)) (by omega)
  · refine we_k_up ⟨⟨fun x hx q => ?_, fun s hs => ?_⟩, ?_⟩ (by omega)
    · rw [sw_up_ne (by omega), sw_up_ne (by omega), sw_up_ne (by omega)] at q
      rw [wb_rdu, if_pos rfl, sw_up_ne (by omega), sw_up_ne (by omega)]
      by_cases qw : x = w
      · rw [qw] at q
        exact absurd hh q
      · rw [if_neg qw]
        exact E.1 x hx q
    · rw [sw_up_ne (by omega), sw_up_ne (by omega), sw_up_ne (by omega)] at hs
      rw [sw_up_ne (by omega), sw_up_ne (by omega), sw_up_ne (by omega), sw_up_ne (by omega), sw_up_ne (by omega), sw_up_ne (by omega)]
      exact E.2 s hs
    · exact we_W_cg (by rw [sw_up_ne (by omega), sw_up_ne (by omega), sw_up_ne (by omega)]) (by rw [sw_up_ne (by omega), sw_up_ne (by omega), sw_up_ne (by omega)])
theorem we_act {T Tm : sw_T} {b : Nat} {N w sh : Int} (I : wb_iv T b N) (R : wb_rp T b (Tm 222)) (E : we_E T b) (hw : 0 ≤ w ∧ w < T b 1) : we_E (wb_act T b w sh) b ∧ we_W (wb_act T b w sh) b ≤ we_W T b := by
  have h1 : 2 ≤ T b 1 ∧ T b 1 ≤ 7 := I.2.1.2.1
  have hw7 : 0 ≤ w ∧ w < 7 := ⟨hw.1, by omega⟩
  obtain ⟨-, -, -, has, -, -, -, h16⟩ := I.2.2.1 w hw7
  have hl := I.1.1.1
  unfold wb_act
  split
  · obtain ⟨q1, q2⟩ := we_k_up (T := T) (i := w) (v := T (b + 8) w + 1) (a := b + 8) ⟨E, rfl⟩ (by omega)
    exact ⟨q1, Int.le_of_eq q2⟩
  · rename_i hA
    have hA0 : T (b + 5) w = 0 := by omega
    split
    · rename_i hB
      exact we_sew I E hw7 hB
    · rename_i hB
      have hB' : T (b + 3) w = -1 := by omega
      split
      · rename_i hC
        obtain ⟨p1, p2, p3⟩ := I.2.2.2.2.1 w (T (b + 11) w - 1) hw7 ⟨by omega, by omega⟩
        obtain ⟨q1, q2⟩ := we_k_up (T := T) (i := w) (v := T (b + 11) w - 1) (a := b + 11) ⟨E, rfl⟩ (by omega)
        obtain ⟨r1, r2⟩ := we_tak (w := w) (s := wb_pi T b w (T (b + 11) w - 1)) q1 hw7 (by rw [sw_up_ne (by omega)]; exact hl) (by rw [sw_up_ne (by omega)]; exact p1) (by rw [sw_up_ne (by omega)]; exact p2) (by rw [sw_up_ne (by omega)]; exact hA0)
        exact ⟨r1, Int.le_of_eq (r2.trans q2)⟩
      · split
        · obtain ⟨q1, q2⟩ := we_mis (w := w) E hB'
          exact ⟨q1, Int.le_of_eq q2⟩
        · rename_i hC hD
          obtain ⟨-, -, ch⟩ := wb_cho_ok I R hw
          rcases ch with h | ⟨h3, h4, h5⟩
          · exact absurd (.inr h) hD
          · have hoh : 1 ≤ T (b + 11) (wb_cho T b w) := by unfold wb_cn at h4; omega
            have ho7 : 0 ≤ wb_cho T b w ∧ wb_cho T b w < 7 := ⟨h3.1, by omega⟩
            obtain ⟨p1, p2, p3⟩ := I.2.2.2.2.1 (wb_cho T b w) 0 ho7 ⟨by omega, by omega⟩
            generalize wb_cho T b w = o at h3 hoh ho7 p1 p2 p3
            have hon : o.toNat < 7 := by omega
            obtain ⟨T0, hT0⟩ : ∃ T0, T0 = sw_up (wb_sh (sw_up T (b + 7) w (T (b + 7) w + 1)) b o) (b + 11) o (T (b + 11) o - 1) := ⟨_, rfl⟩
            have g : ∀ a, a ≠ b + 7 → a ≠ b + 11 → a ≠ b + (13 + o.toNat) → T0 a = T a := fun a a1 a2 a3 => by
              rw [hT0, sw_up_ne a2, wb_sh_ne a3, sw_up_ne a1]
            rw [← hT0]
            obtain ⟨q1, q2⟩ : we_k T T0 b := ⟨we_E_cg E (g _ (by omega) (by omega) (by omega)) (g _ (by omega) (by omega) (by omega)) (g _ (by omega) (by omega) (by omega)) (g _ (by omega) (by omega) (by omega)) (g _ (by omega) (by omega) (by omega)), we_W_cg (g _ (by omega) (by omega) (by omega)) (g _ (by omega) (by omega) (by omega))⟩
            obtain ⟨r1, r2⟩ := we_tak (w := w) (s := wb_pi T b o 0) q1 hw7 (by rw [g _ (by omega) (by omega) (by omega)]; exact hl) (by rw [g _ (by omega) (by omega) (by omega)]; exact p1) (by rw [g _ (by omega) (by omega) (by omega)]; exact p2) (by rw [g _ (by omega) (by omega) (by omega)]; exact hA0)
            exact ⟨r1, Int.le_of_eq (r2.trans q2)⟩
/-! how many are sewn never falls -/
theorem we6_wkf {T : sw_T} {b : Nat} : wb_wkf T b (b + 6) = T (b + 6) := by
  unfold wb_wkf
  split
  · rw [sw_up_ne (by omega), sw_up_ne (by omega)]
  · rfl
theorem we6_com {T : sw_T} {b : Nat} {w k : Int} (hw : 0 ≤ w ∧ w < 7) : wb_com T b w k (b + 6) = T (b + 6) := by
  unfold wb_com
  rw [we6_wkf]
  unfold wb_lay
  rw [sw_up_ne (by omega), sw_up_ne (by omega), sw_up_ne (by omega), sw_up_ne (by omega), sw_up_ne (by omega), sw_up_ne (by omega)]
theorem we6_tak {T : sw_T} {b : Nat} {w s : Int} (hw : 0 ≤ w ∧ w < 7) : wb_tak T b w s (b + 6) = T (b + 6) := by
  have h0 : wb_tk0 T b w s (b + 6) = T (b + 6) := by
    unfold wb_tk0
    rw [sw_up_ne (by omega), sw_up_ne (by omega), sw_up_ne (by omega), sw_up_ne (by omega), sw_up_ne (by omega)]
  unfold wb_tak
  split
  · rw [we6_com hw]
    unfold wb_tk1
    rw [sw_up_ne (by omega), sw_up_ne (by omega), h0]
  · exact h0
theorem we6_act {T Tm : sw_T} {b : Nat} {N w sh : Int} (I : wb_iv T b N) (R : wb_rp T b (Tm 222)) (hw : 0 ≤ w ∧ w < T b 1) : wb_s7 (T (b + 6)) ≤ wb_s7 (wb_act T b w sh (b + 6)) := by
  have h1 : 2 ≤ T b 1 ∧ T b 1 ≤ 7 := I.2.1.2.1
  have hw7 : 0 ≤ w ∧ w < 7 := ⟨hw.1, by omega⟩
  unfold wb_act
  split
  · unfold wb_slp
    rw [sw_up_ne (by omega)]
    exact Int.le_refl _
  · split
    · unfold wb_sew
      split
      · rw [sw_up_ne (by omega)]
        exact Int.le_refl _
      · rw [sw_up_eq, wb_s7_ui hw7, sw_up_ne (by omega), sw_up_ne (by omega), sw_up_ne (by omega), sw_up_ne (by omega)]
        omega
    · split
      · rw [we6_tak hw7, sw_up_ne (by omega)]
        exact Int.le_refl _
      · split
        · unfold wb_mis
          split
          · rw [sw_up_ne (by omega), sw_up_ne (by omega)]
            exact Int.le_refl _
          · rw [sw_up_ne (by omega), sw_up_ne (by omega), sw_up_ne (by omega), sw_up_ne (by omega)]
            exact Int.le_refl _
        · rename_i hC hD
          obtain ⟨-, -, ch⟩ := wb_cho_ok I R hw
          rcases ch with h | ⟨h3, -, -⟩
          · exact absurd (.inr h) hD
          · rw [we6_tak hw7, sw_up_ne (by omega), wb_sh_ne (by omega), sw_up_ne (by omega)]
            exact Int.le_refl _
/-- the same walk as the minutes', with what is kept here -/
theorem we_acts {b : Nat} {sh : Int} : ∀ (k : Nat) (l N : Int) (T Tm : sw_T), wb_iv T b N → wb_rp T b (Tm 222) → we_E T b → ((sh = 1 ∧ Tm 221 9 = 0) ∨ (sh = 0 ∧ Tm 221 9 = 1)) → 0 ≤ l → T b 1 - l ≤ k → l ≤ 7 → ∀ m1, k < m1 → ∀ T1, w33_2 b sh m1 T l = some T1 → we_E T1 b ∧ we_W T1 b ≤ we_W T b ∧ wb_s7 (T (b + 6)) ≤ wb_s7 (T1 (b + 6)) := by
  intro k
  induction k with
  | zero =>
    intro l N T Tm I R E hs hl hk h7 m1 h1 T1 hT
    obtain ⟨m1, rfl⟩ : ∃ q, m1 = q + 1 := ⟨m1 - 1, by omega⟩
    have hst : 2 ≤ T b 1 ∧ T b 1 ≤ 7 := I.2.1.2.1
    unfold w33_2 at hT
    rw [wb_r2 ⟨by omega, by omega⟩ ⟨by omega, by omega⟩, Option.bind_some, if_neg (by omega)] at hT
    cases hT
    exact ⟨E, Int.le_refl _, Int.le_refl _⟩
  | succ k ih =>
    intro l N T Tm I R E hs hl hk h7 m1 h1 T1 hT
    obtain ⟨m1, rfl⟩ : ∃ q, m1 = q + 1 := ⟨m1 - 1, by omega⟩
    have hst : 2 ≤ T b 1 ∧ T b 1 ≤ 7 := I.2.1.2.1
    unfold w33_2 at hT
    rw [wb_r2 (a := l) (b := T b 1) ⟨by omega, by omega⟩ ⟨by omega, by omega⟩, Option.bind_some] at hT
    by_cases h3 : l < T b 1
    · obtain ⟨⟨r, e1, e2, e3⟩, Tm1, e4, e5, e6⟩ := wb_act_c I R ⟨hl, h3⟩ hs
      have J := wb_act_iv (sh := sh) I R ⟨hl, h3⟩
      have S := wb_act_sm (T := T) (b := b) (w := l) (sh := sh)
      obtain ⟨f1, f2⟩ := we_act (sh := sh) I R E ⟨hl, h3⟩
      rw [if_pos h3, wb_r2 ⟨by omega, by omega⟩ (by decide), Option.bind_some, if_pos (by omega), e1, Option.bind_some, wb_r2 e2 (by decide), Option.bind_some] at hT
      have hT2 : w33_2 b sh m1 (wb_act T b l sh) (l + 1) = some T1 := by
        rcases e3 with ⟨q1, q2⟩ | ⟨q1, q2⟩
        · rw [if_pos q1, q2] at hT
          exact hT
        · rw [if_neg q1, q2, Option.bind_some] at hT
          exact hT
      have f3 := we6_act (sh := sh) I R ⟨hl, h3⟩
      obtain ⟨g1, g2, g3⟩ := ih (l + 1) (N + 1) _ Tm1 J e5 f1 (by rw [e6 221 (by decide)]; exact hs) (by omega) (by rw [S.1]; omega) (by omega) m1 (by omega) T1 hT2
      exact ⟨g1, by omega, by omega⟩
    · rw [if_neg h3] at hT
      cases hT
      exact ⟨E, Int.le_refl _, Int.le_refl _⟩
theorem we_minute {b : Nat} {sh N : Int} {T Tm : sw_T} (I : wb_iv T b N) (R : wb_rp T b (Tm 222)) (E : we_E T b) (hs : (sh = 1 ∧ Tm 221 9 = 0) ∨ (sh = 0 ∧ Tm 221 9 = 1)) {T1 : sw_T} (hT : w33 b T sh = some T1) : we_E T1 b ∧ we_W T1 b ≤ we_W T b ∧ wb_s7 (T (b + 6)) ≤ wb_s7 (T1 (b + 6)) := by
  have hst : 2 ≤ T b 1 ∧ T b 1 ≤ 7 := I.2.1.2.1
  obtain ⟨T2, Tm2, e1, -⟩ := wb_acts 7 0 N T Tm I R hs (by decide) (by omega) (by decide) sw_N sw_N (by decide) (by decide)
  obtain ⟨f1, f2, f3⟩ := we_acts 7 0 N T Tm I R E hs (by decide) (by omega) (by decide) sw_N (by decide) T2 e1
  unfold w33 at hT
  rw [e1, Option.bind_some, wb_pf, Option.bind_some] at hT
  cases hT
  obtain ⟨q1, q2⟩ := we_k_up (T := T2) (i := 0) (v := T2 b 0 + 1) (a := b) ⟨f1, rfl⟩ (by omega)
  exact ⟨q1, by omega, by rw [sw_up_ne (show b + 6 ≠ b by omega)]; exact f3⟩
theorem we_passes {b : Nat} {c : Int} (hc : 0 ≤ c ∧ c ≤ 4000) : ∀ (k : Nat) (l N : Int) (T Tm : sw_T), wb_iv T b N → wb_rp T b (Tm 222) → we_E T b → Tm 221 9 = 0 → 0 ≤ l → c - l ≤ k → l ≤ c → ∀ m1, k < m1 → ∀ T1, w32_2 b c m1 T l = some T1 → we_E T1 b ∧ we_W T1 b ≤ we_W T b ∧ wb_s7 (T (b + 6)) ≤ wb_s7 (T1 (b + 6)) := by
  intro k
  induction k with
  | zero =>
    intro l N T Tm I R E hs hl hk h7 m1 h1 T1 hT
    obtain ⟨m1, rfl⟩ : ∃ q, m1 = q + 1 := ⟨m1 - 1, by omega⟩
    unfold w32_2 at hT
    rw [wb_r2 ⟨by omega, by omega⟩ ⟨by omega, by omega⟩, Option.bind_some, if_neg (by omega)] at hT
    cases hT
    exact ⟨E, Int.le_refl _, Int.le_refl _⟩
  | succ k ih =>
    intro l N T Tm I R E hs hl hk h7 m1 h1 T1 hT
    obtain ⟨m1, rfl⟩ : ∃ q, m1 = q + 1 := ⟨m1 - 1, by omega⟩
    unfold w32_2 at hT
    rw [wb_r2 (a := l) (b := c) ⟨by omega, by omega⟩ ⟨by omega, by omega⟩, Option.bind_some] at hT
    by_cases h3 : l < c
    · obtain ⟨T2, Tm2, e1, e2, e3, e4, e5, e6, e7⟩ := wb_minute (sh := 1) I R (.inl ⟨rfl, hs⟩)
      obtain ⟨f1, f2, f3⟩ := we_minute (sh := 1) I R E (.inl ⟨rfl, hs⟩) e1
      rw [if_pos h3, e1, Option.bind_some] at hT
      obtain ⟨g1, g2, g3⟩ := ih (l + 1) (N + 8) T2 Tm2 e3 e4 f1 (by rw [e6 221 (by decide)]; exact hs) (by omega) (by omega) (by omega) m1 (by omega) T1 hT
      exact ⟨g1, by omega, by omega⟩
    · rw [if_neg h3] at hT
      cases hT
      exact ⟨E, Int.le_refl _, Int.le_refl _⟩
theorem we_pass {b : Nat} {c N : Int} {T Tm : sw_T} (hc : 0 ≤ c ∧ c ≤ 4000) (I : wb_iv T b N) (R : wb_rp T b (Tm 222)) (E : we_E T b) (hs : Tm 221 9 = 0) {T1 : sw_T} (hT : w32 b T c = some T1) : we_E T1 b ∧ we_W T1 b ≤ we_W T b ∧ wb_s7 (T (b + 6)) ≤ wb_s7 (T1 (b + 6)) := by
  obtain ⟨k, rfl⟩ := Int.eq_ofNat_of_zero_le hc.1
  obtain ⟨T2, Tm2, e1, -⟩ := wb_passes hc k 0 N T Tm I R hs (by decide) (by omega) (by omega) sw_N sw_N (by unfold sw_N; omega) (by unfold sw_N; omega)
  unfold w32 at hT
  rw [e1, Option.bind_some] at hT
  cases hT
  exact we_passes hc k 0 N T Tm I R E hs (by decide) (by omega) (by omega) sw_N (by unfold sw_N; omega) T1 e1
theorem we_E_eq {T T' : sw_T} {b c : Nat} {N : Int} (I : wb_iv T b N) (E : we_E T b) (h : wb_eq T b T' c) : we_E T' c := by
  have hc := I.2.1.2.2.2.2
  have e20 : T (b + 20) 0 = T' (c + 20) 0 := h 20 (by decide) 0 (by decide) (show (0 : Int) < 1 by decide)
  refine ⟨fun w hw q => ?_, fun s hs => ?_⟩
  · rw [← h 3 (by decide) w hw.1 hw.2] at q
    rw [← h 5 (by decide) w hw.1 hw.2]
    exact E.1 w hw q
  · rw [← e20] at hs
    have g : ∀ t : Nat, 21 ≤ t → t < 24 → T (b + t) s = T' (c + t) s := fun t h1 h2 => h t h2 s hs.1 (by
      have e : t = 21 ∨ t = 22 ∨ t = 23 := by omega
      rcases e with rfl | rfl | rfl <;> exact hs.2)
    rw [← g 21 (by decide) (by decide), ← g 22 (by decide) (by decide)]
    exact E.2 s hs
theorem we_W_eq {T T' : sw_T} {b c : Nat} {N : Int} (I : wb_iv T b N) (h : wb_eq T b T' c) : we_W T' c = we_W T b := by
  have hc := I.2.1.2.2.2.2
  have e20 : T (b + 20) 0 = T' (c + 20) 0 := h 20 (by decide) 0 (by decide) (show (0 : Int) < 1 by decide)
  unfold we_W
  rw [← e20]
  exact we_sw_cg _ (fun j hj => (h 21 (by decide) j (by omega) (show (j : Int) < T (b + 20) 0 by omega)).symm)
