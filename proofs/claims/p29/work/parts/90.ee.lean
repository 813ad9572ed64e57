/-! ===== the class's own state: room, snapshot, history; saved, undone, kept, gone back to ===== -/
def wq_r (T : sw_T) (b : Nat) (N : Int) : Prop := wb_iw T b N ∧ we_E T b
theorem wq_r_eq {T T' : sw_T} {b c : Nat} {N : Int} (I : wq_r T b N) (h : wb_eq T b T' c) : wq_r T' c N := ⟨wb_iw_eq I.1 h, we_E_eq I.1.1 I.2 h⟩
theorem wq_r_fr {T T' : sw_T} {b : Nat} {N : Int} (I : wq_r T b N) (h : ∀ t : Nat, t < 24 → T' (b + t) = T (b + t)) : wq_r T' b N := wq_r_eq I (wb_eq_of h)
theorem wq_r_le {T : sw_T} {b : Nat} {N N' : Int} (I : wq_r T b N) (h : N ≤ N') : wq_r T b N' := ⟨wb_iw_le I.1 h, I.2⟩
/-- the snapshot: none, or one whose row is K -/
def wq_sn (T : sw_T) (N : Int) (K : Int → Int) : Prop := T 0 5 = 1 ∧ wq_r T 25 N ∧ wb_rp T 25 K
def wq_hs (T : sw_T) (N : Int) : Prop := (0 ≤ T 73 1 ∧ T 73 1 ≤ 6) ∧ wb_hp T ∧ ∀ k, 0 ≤ k ∧ k < T 73 1 → wq_r T (T 74 k).toNat N
/-- the state: its room's row is M, its snapshot's K -/
def wq_S (T : sw_T) (N : Int) (M K : Int → Int) : Prop := (wq_r T 1 N ∧ wb_rp T 1 M) ∧ wq_sn T N K ∧ wq_hs T N
theorem wq_sn_fr {T T' : sw_T} {N N' : Int} {K : Int → Int} (h : wq_sn T N K) (hN : N ≤ N') (h0 : T' 0 = T 0) (hT : ∀ a, 25 ≤ a ∧ a < 49 → T' a = T a) : wq_sn T' N' K := by
  obtain ⟨a, b, c⟩ := h
  have hq : ∀ t : Nat, t < 24 → T' (25 + t) = T (25 + t) := fun t ht => hT _ (by omega)
  exact ⟨by rw [h0]; exact a, wq_r_le (wq_r_fr b hq) hN, wb_rp_fr b.1.1 c hq⟩
theorem wq_hs_fr {T T' : sw_T} {N N' : Int} (h : wq_hs T N) (hN : N ≤ N') (hT : ∀ a, 73 ≤ a ∧ a < 219 → T' a = T a) : wq_hs T' N' := by
  obtain ⟨a, b, c⟩ := h
  have e73 := hT 73 (by decide)
  have e74 := hT 74 (by decide)
  refine ⟨by rw [e73]; exact a, ?_, fun k hk => ?_⟩
  · unfold wb_hp
    rw [e74]
    exact b
  · rw [e73] at hk
    rw [e74]
    have hr := wb_hx_rg (b.1 k ⟨hk.1, by omega⟩)
    exact wq_r_le (wq_r_fr (c k hk) (fun t ht => hT _ (by omega))) hN
/-- what is saved: the room as it was at T, on top of T's own history -/
def wq_sv (T T1 : sw_T) (c : Int) : Prop := (T1 0 = T 0 ∧ ∀ a, 25 ≤ a ∧ a < 49 → T1 a = T a) ∧ T1 73 1 = c + 1 ∧ T1 74 = T 74 ∧ wb_eq T 1 T1 (T 74 c).toNat ∧ ∀ k, 0 ≤ k ∧ k < c → ∀ t : Nat, t < 24 → T1 ((T 74 k).toNat + t) = T ((T 74 k).toNat + t)
theorem wq_save {T : sw_T} {N c : Int} {M K : Int → Int} (S : wq_S T N M K) (hc : T 73 1 = c) (h6 : c < 6) : ∃ T1, w1 1 T = some T1 ∧ (∀ a, a < 73 → T1 a = T a) ∧ wq_S T1 N M K ∧ wq_sv T T1 c := by
  obtain ⟨⟨I, R⟩, sn, ⟨b2, b3, b4⟩⟩ := S
  have hx := b3.1 c ⟨by omega, h6⟩
  have hr := wb_hx_rg hx
  obtain ⟨X, e1, e2, e3⟩ := wb_copy (b := (T 74 c).toNat) (c := 1) I.1.1 (.inr (by omega))
  have hX73 : X 73 1 = c := by rw [e2 73 (.inl (by omega)), hc]
  have hlo : ∀ a, a < 73 → sw_up X 73 1 (c + 1) a = T a := fun a ha => by rw [sw_up_ne (by omega)]; exact e2 a (by omega)
  have h74 : sw_up X 73 1 (c + 1) 74 = T 74 := by rw [sw_up_ne (by decide), e2 74 (.inl (by omega))]
  have h73 : sw_up X 73 1 (c + 1) 73 1 = c + 1 := by rw [wb_rdu, if_pos rfl, if_pos rfl]
  have hs : wb_eq T 1 (sw_up X 73 1 (c + 1)) (T 74 c).toNat := fun t ht i hi1 hi2 => by
    rw [sw_up_ne (by omega)]
    exact e3 t ht i hi1 hi2
  have hk : ∀ k, 0 ≤ k ∧ k < c → ∀ t : Nat, t < 24 → sw_up X 73 1 (c + 1) ((T 74 k).toNat + t) = T ((T 74 k).toNat + t) := fun k hk t ht => by
    have hkx := b3.1 k ⟨hk.1, by omega⟩
    have hkr := wb_hx_rg hkx
    have hne : T 74 k ≠ T 74 c := b3.2 k c ⟨hk.1, by omega, h6⟩
    rw [sw_up_ne (by omega)]
    exact e2 _ (wb_hx_ap hkx hx hne t ht)
  have hq1 : ∀ t : Nat, t < 24 → sw_up X 73 1 (c + 1) (1 + t) = T (1 + t) := fun t ht => hlo _ (by omega)
  refine ⟨sw_up X 73 1 (c + 1), ?_, hlo, ⟨⟨wq_r_fr I hq1, wb_rp_fr I.1.1 R hq1⟩, wq_sn_fr sn (Int.le_refl _) (hlo 0 (by decide)) (fun a ha => hlo a (by omega)), ?_⟩, ⟨hlo 0 (by decide), fun a ha => hlo a (by omega)⟩, h73, h74, hs, hk⟩
  · unfold w1 w1_13
    rw [wb_r2 ⟨by omega, by omega⟩ (by decide), Option.bind_some, if_pos (by omega), hc, wb_lr ⟨by omega, by omega⟩ hx, Option.bind_some, e1, Option.bind_some, wb_pf, Option.bind_some, hX73]
  · refine ⟨by rw [h73]; omega, ?_, fun k hk2 => ?_⟩
    · unfold wb_hp
      rw [h74]
      exact b3
    · rw [h73] at hk2
      rw [h74]
      by_cases hkc : k = c
      · rw [hkc]
        exact wq_r_eq I hs
      · exact wq_r_fr (b4 k ⟨hk2.1, by omega⟩) (hk k ⟨hk2.1, by omega⟩)
/-- saved, then the room alone has changed -/
theorem wq_did {T T1 T2 : sw_T} {N N' c : Int} {M K M2 : Int → Int} (S : wq_S T1 N M K) (s : wq_sv T T1 c) (hp : wb_hp T) (h6 : 0 ≤ c ∧ c < 6) (hN : N ≤ N') (f : wb_fc 1 T1 T2) (J : wq_r T2 1 N') (R : wb_rp T2 1 M2) : wq_S T2 N' M2 K ∧ wq_sv T T2 c := by
  obtain ⟨-, sn, hs⟩ := S
  obtain ⟨⟨s1, s2⟩, s3, s4, s5, s6⟩ := s
  have g : ∀ k, 0 ≤ k ∧ k ≤ c → 75 ≤ (T 74 k).toNat := fun k hk => by
    have := wb_hx_rg (hp.1 k ⟨hk.1, by omega⟩)
    omega
  refine ⟨⟨⟨J, R⟩, wq_sn_fr sn hN (f 0 (by decide)) (fun a ha => f a (by omega)), wq_hs_fr hs hN (fun a ha => f a (by omega))⟩, ⟨by rw [f 0 (by decide)]; exact s1, fun a ha => by rw [f a (by omega)]; exact s2 a ha⟩, by rw [f 73 (by decide)]; exact s3, by rw [f 74 (by decide)]; exact s4, fun t ht i h1 h2 => ?_, fun k hk t ht => ?_⟩
  · rw [f _ (by have := g c ⟨h6.1, Int.le_refl _⟩; omega)]
    exact s5 t ht i h1 h2
  · rw [f _ (by have := g k ⟨hk.1, by omega⟩; omega)]
    exact s6 k hk t ht
/-- a state taken off the history -/
theorem wq_pop {T : sw_T} {N c : Int} (hs : wq_hs T N) (hc : T 73 1 = c + 1) (h0 : 0 ≤ c) : ∃ X, w71 T = some (.inl (c, X)) ∧ wb_eq T (T 74 c).toNat X 1 ∧ (∀ a, a < 1 ∨ 25 ≤ a → a ≠ 73 → X a = T a) ∧ X 73 1 = c := by
  obtain ⟨b2, b3, b4⟩ := hs
  have hx := b3.1 c ⟨by omega, by omega⟩
  have hxr := wb_hx_rg hx
  have I1 := b4 c ⟨by omega, by omega⟩
  have hf5 : ∀ t : Nat, t < 24 → sw_up T 73 1 c ((T 74 c).toNat + t) = T ((T 74 c).toNat + t) := fun t ht => sw_up_ne (by omega)
  obtain ⟨X, f1, f2, f3⟩ := wb_copy (T := sw_up T 73 1 c) (b := 1) (c := (T 74 c).toNat) (wb_iv_fr I1.1.1 hf5) (.inl (by omega))
  have hX73 : X 73 1 = c := by rw [f2 73 (by decide), wb_rdu, if_pos rfl, if_pos rfl]
  refine ⟨X, ?_, fun t ht i h1 h2 => ?_, fun a h1 h2 => by rw [f2 a h1, sw_up_ne h2], hX73⟩
  · unfold w71 w2
    rw [wb_r1 ⟨by omega, by omega⟩, Option.bind_some, if_neg (by omega), wb_r2 ⟨by omega, by omega⟩ (by decide), Option.bind_some, if_neg (by omega), wb_r2 ⟨by omega, by omega⟩ (by decide), Option.bind_some, if_neg (by omega), wb_pf, Option.bind_some, show T 73 1 - 1 = c by omega, show sw_up T 73 1 c 73 1 = c by rw [wb_rdu, if_pos rfl, if_pos rfl], wb_lr ⟨by omega, by omega⟩ (by rw [sw_up_ne (by decide)]; exact hx), Option.bind_some, sw_up_ne (show 74 ≠ 73 by decide), f1, Option.bind_some, Option.bind_some, hX73]
  · have h2' : i < wb_dm (sw_up T 73 1 c ((T 74 c).toNat + 20) 0) t := by rw [sw_up_ne (by omega)]; exact h2
    have := f3 t ht i h1 h2'
    rw [sw_up_ne (by omega)] at this
    exact this
/-- the latest state is undone, whatever it was -/
theorem wq_undo0 {T : sw_T} {N : Int} {M K : Int → Int} (S : wq_S T N M K) (hc : 0 < T 73 1) : ∃ v X M', w71 T = some (.inl (v, X)) ∧ wq_S X N M' K ∧ X 73 1 = T 73 1 - 1 := by
  obtain ⟨-, sn, hs⟩ := S
  obtain ⟨X, e1, e2, e3, e4⟩ := wq_pop (c := T 73 1 - 1) hs (by omega) (by omega)
  have I := hs.2.2 (T 73 1 - 1) ⟨by omega, by omega⟩
  refine ⟨_, X, wb_en X 1, e1, ⟨⟨wq_r_eq I e2, fun j _ => rfl⟩, wq_sn_fr sn (Int.le_refl _) (e3 0 (by decide) (by decide)) (fun a ha => e3 a (by omega) (by omega)), ?_⟩, e4⟩
  obtain ⟨b2, b3, b4⟩ := hs
  refine ⟨by rw [e4]; omega, ?_, fun k hk => ?_⟩
  · unfold wb_hp
    rw [e3 74 (by decide) (by decide)]
    exact b3
  · rw [e4] at hk
    rw [e3 74 (by decide) (by decide)]
    have hr := wb_hx_rg (b3.1 k ⟨hk.1, by omega⟩)
    exact wq_r_fr (b4 k ⟨hk.1, by omega⟩) (fun t ht => e3 _ (by omega) (by omega))
/-- what was saved at T comes back -/
theorem wq_undo {T T2 : sw_T} {N N' c : Int} {M K M2 : Int → Int} (S : wq_S T N M K) (hc : T 73 1 = c) (h6 : c < 6) (S2 : wq_S T2 N' M2 K) (s : wq_sv T T2 c) : ∃ X, w71 T2 = some (.inl (c, X)) ∧ wq_S X N M K ∧ X 73 1 = c := by
  obtain ⟨⟨I, R⟩, sn, ⟨b2, b3, b4⟩⟩ := S
  obtain ⟨⟨s1, s2⟩, s3, s4, s5, s6⟩ := s
  obtain ⟨X, e1, e2, e3, e4⟩ := wq_pop (c := c) S2.2.2 s3 (by omega)
  rw [s4] at e2
  have hq : wb_eq T 1 X 1 := fun t ht i h1 h2 => by
    have g := s5 t ht i h1 h2
    have e20 : T 21 0 = T2 ((T 74 c).toNat + 20) 0 := s5 20 (by decide) 0 (by decide) (show (0 : Int) < 1 by decide)
    have g2 := e2 t ht i h1 (by rw [← e20]; exact h2)
    exact g.trans g2
  refine ⟨X, e1, ⟨⟨wq_r_eq I hq, wb_rp_eq I.1.1 hq R⟩, wq_sn_fr sn (Int.le_refl _) (by rw [e3 0 (by decide) (by decide)]; exact s1) (fun a ha => by rw [e3 a (by omega) (by omega)]; exact s2 a ha), ⟨by rw [e4]; omega, ?_, fun k hk => ?_⟩⟩, e4⟩
  · unfold wb_hp
    rw [e3 74 (by decide) (by decide), s4]
    exact b3
  · rw [e4] at hk
    rw [e3 74 (by decide) (by decide), s4]
    have hr := wb_hx_rg (b3.1 k ⟨hk.1, by omega⟩)
    exact wq_r_fr (b4 k ⟨hk.1, by omega⟩) (fun t ht => by rw [e3 _ (by omega) (by omega)]; exact s6 k hk t ht)
/-- a snapshot taken -/
theorem wq_keep {T : sw_T} {N : Int} {M K : Int → Int} (I : wq_r T 1 N) (R : wb_rp T 1 M) (hs : wq_hs T N) : ∃ X, w69 T = some (T 1 0, X) ∧ wq_S X N M M ∧ X 73 1 = T 73 1 := by
  obtain ⟨X, e1, e2, e3⟩ := wb_copy (b := 25) (c := 1) I.1.1 (.inr (by decide))
  have hr : ∀ t : Nat, t < 24 → sw_up X 0 5 1 (1 + t) = T (1 + t) := fun t ht => by rw [sw_up_ne (by omega)]; exact e2 _ (by omega)
  have hq : wb_eq T 1 (sw_up X 0 5 1) 25 := fun t ht i hi1 hi2 => by rw [sw_up_ne (by omega)]; exact e3 t ht i hi1 hi2
  have h73 : ∀ a, 73 ≤ a ∧ a < 219 → sw_up X 0 5 1 a = T a := fun a ha => by rw [sw_up_ne (by omega)]; exact e2 a (by omega)
  refine ⟨sw_up X 0 5 1, ?_, ⟨⟨wq_r_fr I hr, wb_rp_fr I.1.1 R hr⟩, ⟨by rw [wb_rdu, if_pos rfl, if_pos rfl], wq_r_eq I hq, wb_rp_eq I.1.1 hq R⟩, wq_hs_fr hs (Int.le_refl _) h73⟩, by rw [h73 73 (by decide)]⟩
  unfold w69
  rw [e1, Option.bind_some, wb_pb (.inr rfl), Option.bind_some, sw_up_ne (show 1 ≠ 0 by decide), e2 1 (by decide)]
/-- back to the snapshot -/
theorem wq_back {T : sw_T} {N c : Int} {M K : Int → Int} (S : wq_S T N M K) (hc : T 73 1 = c) (h6 : c < 6) : ∃ X, w70 T = some (.inl (X 1 0, X)) ∧ wq_S X N K K ∧ wq_sv T X c := by
  obtain ⟨T1, e1, e2, S1, s⟩ := wq_save S hc h6
  obtain ⟨a5, i25, r25⟩ := S1.2.1
  obtain ⟨X, f1, f2, f3⟩ := wb_copy (b := 1) (c := 25) i25.1.1 (.inl (by decide))
  have h05 : T 0 5 = 1 := S.2.1.1
  obtain ⟨q1, q2⟩ := wq_did (T2 := X) (N' := N) (M2 := K) S1 s S.2.2.2.1 ⟨by have := S.2.2.1; omega, h6⟩ (Int.le_refl _) f2 (wq_r_eq i25 f3) (wb_rp_eq i25.1.1 f3 r25)
  refine ⟨X, ?_, q1, q2⟩
  unfold w70
  rw [h05, wb_r1 (by decide), Option.bind_some, if_neg (by decide), e1, Option.bind_some, f1, Option.bind_some]
