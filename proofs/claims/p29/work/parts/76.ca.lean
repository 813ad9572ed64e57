/-! ===== saving, keeping, going back, undoing ===== -/
/-- what a save leaves alone -/
def wb_sv (T Tm T1 Tm1 : sw_T) : Prop := (∀ a, a < 73 ∨ 219 ≤ a → T1 a = T a) ∧ (∀ a, a ≠ 221 → a ≠ 224 → Tm1 a = Tm a) ∧ (∀ k, k ≠ 4 → Tm1 221 k = Tm 221 k)
theorem wb_R_hist {T Tm T1 Tm1 : sw_T} {N : Int} (h : wb_R T Tm N) (s : wb_sv T Tm T1 Tm1) (hc : T1 73 1 = Tm1 221 4 ∧ (0 ≤ T1 73 1 ∧ T1 73 1 ≤ 6)) (hp : wb_hp T1) (hi : wb_hi T1 N (T1 73 1) (Tm1 224)) : wb_R T1 Tm1 N := by
  obtain ⟨⟨i1, i2⟩, ⟨a1, a2⟩, -, ⟨c1, c2, c3⟩, d⟩ := h
  obtain ⟨s1, s2, s3⟩ := s
  have hr : ∀ t : Nat, t < 24 → T1 (1 + t) = T (1 + t) := fun t ht => s1 _ (by omega)
  refine ⟨⟨wb_iw_fr i1 hr, ?_⟩, ⟨?_, ?_⟩, ⟨hc.1, hc.2, hp, hi⟩, ⟨?_, ?_, ?_⟩, ?_⟩
  · rw [s2 222 (by decide) (by decide)]
    exact wb_rp_fr i1.1 i2 hr
  · rw [s1 0 (by decide), s3 6 (by decide)]
    exact a1
  · rw [s1 0 (by decide), s2 225 (by decide) (by decide)]
    have hq : ∀ t : Nat, t < 24 → T1 (25 + t) = T (25 + t) := fun t ht => s1 _ (by omega)
    rcases a2 with q | ⟨q1, q2, q3⟩
    · exact .inl q
    · exact .inr ⟨q1, wb_iw_fr q2 hq, wb_rp_fr q2.1 q3 hq⟩
  · rw [s1 219 (by decide), s3 8 (by decide)]
    exact c1
  · rw [s1 219 (by decide)]
    exact c2
  · rw [s1 219 (by decide), s1 220 (by decide), s2 226 (by decide) (by decide)]
    exact c3
  · rw [s3 9 (by decide)]
    exact d
theorem wb_hp_drop {T T1 : sw_T} (hp : wb_hp T) (h4 : ∀ k, T1 74 k = if 0 ≤ k ∧ k < 5 then T 74 (k + 1) else if k = 5 then T 74 0 else T 74 k) : wb_hp T1 := by
  have e : ∀ k, 0 ≤ k ∧ k < 5 → T1 74 k = T 74 (k + 1) := fun k hk => by rw [h4, if_pos hk]
  have e5 : T1 74 5 = T 74 0 := by
    rw [h4]
    rfl
  constructor
  · intro k hk
    by_cases h5 : k = 5
    · rw [h5, e5]
      exact hp.1 0 (by decide)
    · rw [e k ⟨hk.1, by omega⟩]
      exact hp.1 (k + 1) ⟨by omega, by omega⟩
  · intro i j hij
    by_cases h5 : j = 5
    · rw [h5, e5, e i ⟨hij.1, by omega⟩]
      exact fun q => hp.2 0 (i + 1) ⟨by decide, by omega, by omega⟩ q.symm
    · rw [e i ⟨hij.1, by omega⟩, e j ⟨by omega, by omega⟩]
      exact hp.2 (i + 1) (j + 1) ⟨by omega, by omega, by omega⟩
theorem wb_save {T Tm : sw_T} {N : Int} (h : wb_R T Tm N) : ∃ T1 Tm1, w1 1 T = some T1 ∧ w105 Tm = some Tm1 ∧ wb_R T1 Tm1 N ∧ wb_sv T Tm T1 Tm1 := by
  obtain ⟨⟨I, R⟩, -, ⟨b1, b2, b3, b4⟩, -⟩ := id h
  unfold w1 w105
  rw [wb_r2 ⟨by omega, by omega⟩ (by decide), Option.bind_some, ← b1, wb_r2 ⟨by omega, by omega⟩ (by decide), Option.bind_some]
  by_cases h6 : T 73 1 < 6
  · rw [if_pos h6, if_neg (show ¬ T 73 1 = 6 by omega)]
    obtain ⟨T1, Tm1, e1, e2, e3, e4, e5, e6, e7, e8, e9⟩ := wb_push I R rfl b1.symm ⟨b2.1, h6⟩ b3 b4
    have s : wb_sv T Tm T1 Tm1 := ⟨e7, e8, e9⟩
    refine ⟨T1, Tm1, e1, e2, wb_R_hist h s ⟨by rw [e3, e4], by omega⟩ ?_ (by rw [e3]; exact e6), s⟩
    unfold wb_hp
    rw [e5]
    exact b3
  · have hc6 : T 73 1 = 6 := by omega
    rw [if_neg h6, if_pos hc6]
    obtain ⟨X, e1, e2, e3, e4⟩ := wb_w3 b3
    obtain ⟨Y, g1, g2, g3⟩ := wb_w105_11 (T := Tm)
    have hY : Y 221 4 - 1 = 5 := by
      rw [g2 221 (by decide), ← b1, hc6]
      rfl
    have hr : ∀ t : Nat, t < 24 → X (1 + t) = T (1 + t) := fun t ht => e2 _ (by omega) (by omega)
    have hpX := wb_hp_drop b3 e4
    obtain ⟨T1, Tm1, k1, k2, k3, k4, k5, k6, k7, k8, k9⟩ := wb_push (T := X) (Tm := sw_up Y 221 4 5) (c := 5) (wb_iw_fr I hr) (by
      rw [sw_up_ne (by decide), g2 222 (by decide)]
      exact wb_rp_fr I.1 R hr) e3 (by rw [wb_rdu, if_pos rfl, if_pos rfl]) (by decide) hpX (fun k hk => by
      have hx1 := b3.1 (k + 1) ⟨by omega, by omega⟩
      have hxr := wb_hx_rg hx1
      obtain ⟨I1, R1⟩ := b4 (k + 1) ⟨by omega, by omega⟩
      have hs : ∀ t : Nat, t < 24 → X ((T 74 (k + 1)).toNat + t) = T ((T 74 (k + 1)).toNat + t) := fun t ht => e2 _ (by omega) (by omega)
      rw [e4 k, if_pos hk]
      refine ⟨wb_iw_fr I1 hs, wb_rp_cg (wb_iv_fr I1.1 hs) (wb_rp_fr I1.1 R1 hs) (fun j hj => ?_)⟩
      show sw_up Y 221 4 5 224 (543 * k + j) = Tm 224 (543 * (k + 1) + j)
      rw [sw_up_ne (by decide), g3, if_pos (by omega), show 543 * k + j + 543 = 543 * (k + 1) + j by omega])
    have s : wb_sv T Tm T1 Tm1 := ⟨fun a ha => by rw [k7 a ha]; exact e2 a (by omega) (by omega), fun a h1 h2 => by rw [k8 a h1 h2, sw_up_ne h1]; exact g2 a h2, fun k hk => by rw [k9 k hk, wb_rdu, if_pos rfl, if_neg hk, g2 221 (by decide)]⟩
    refine ⟨T1, Tm1, ?_, ?_, wb_R_hist h s ⟨by rw [k3, k4], by rw [k3]; decide⟩ ?_ (by rw [k3]; exact k6), s⟩
    · rw [e1, Option.bind_some, k1]
    · rw [g1, Option.bind_some, wb_pf, Option.bind_some, hY, k2]
    · unfold wb_hp
      rw [k5]
      exact hpX
theorem wb_R_k {T Tm : sw_T} {N k v : Int} (h : wb_R T Tm N) (hk : k ≠ 4 ∧ k ≠ 6 ∧ k ≠ 8 ∧ k ≠ 9) : wb_R T (sw_up Tm 221 k v) N := by
  refine wb_R_room h (Int.le_refl _) (fun _ _ => rfl) ⟨sw_up_ne (by decide), sw_up_ne (by decide), sw_up_ne (by decide), ?_, ?_, ?_, ?_⟩ h.1.1 (by rw [sw_up_ne (by decide)]; exact h.1.2)
  · rw [wb_rdu, if_pos rfl, if_neg (by omega)]
  · rw [wb_rdu, if_pos rfl, if_neg (by omega)]
  · rw [wb_rdu, if_pos rfl, if_neg (by omega)]
  · rw [wb_rdu, if_pos rfl, if_neg (by omega)]
/-- what a call gives in both -/
def wb_res (F G : Option (Int × sw_T)) (T Tm : sw_T) (N : Int) : Prop := ∃ k v T1 Tm1, F = some (k, T1) ∧ G = some (v, Tm1) ∧ Tm1 221 0 = k ∧ (k = 0 → T1 228 0 = v) ∧ (wb_rg k ∧ wb_rg v) ∧ (∀ a, 221 ≤ a ∧ a < 228 → T1 a = T a) ∧ (∀ a, a < 221 ∨ 228 ≤ a → Tm1 a = Tm a) ∧ wb_R T1 Tm1 N
/-- the same of a call that never throws -/
def wb_rs2 (F G : Option (Int × sw_T)) (T Tm : sw_T) (N : Int) : Prop := ∃ v T1 Tm1, F = some (v, T1) ∧ G = some (v, Tm1) ∧ wb_rg v ∧ (∀ a, 221 ≤ a ∧ a < 228 → T1 a = T a) ∧ (∀ a, a < 221 ∨ 228 ≤ a → Tm1 a = Tm a) ∧ wb_R T1 Tm1 N
theorem wb_res_ok {F G : Option (Int × sw_T)} {T Tm T1 Tm1 : sw_T} {N v : Int} (eF : F = some (0, sw_up T1 228 0 v)) (eG : G = some (v, Tm1)) (hv : wb_rg v) (h0 : Tm1 221 0 = 0) (fT : ∀ a, 221 ≤ a ∧ a < 228 → T1 a = T a) (fm : ∀ a, a < 221 ∨ 228 ≤ a → Tm1 a = Tm a) (hR : wb_R T1 Tm1 N) : wb_res F G T Tm N := by
  refine ⟨0, v, _, Tm1, eF, eG, h0, fun _ => ?_, ⟨by unfold wb_rg; decide, hv⟩, fun a ha => ?_, fm, wb_R_fr hR (fun a ha => sw_up_ne (by omega)) (fun _ _ => rfl)⟩
  · rw [wb_rdu, if_pos rfl, if_pos rfl]
  · rw [sw_up_ne (by omega)]
    exact fT a ha
theorem wb_res_no {F G : Option (Int × sw_T)} {T Tm : sw_T} {N k : Int} (eF : F = some (k, T)) (eG : G = some (0, sw_up (sw_up Tm 221 0 0) 221 0 k)) (hk : wb_rg k ∧ k ≠ 0) (hR : wb_R T Tm N) : wb_res F G T Tm N := by
  refine ⟨k, 0, T, _, eF, eG, ?_, fun h => absurd h hk.2, ⟨hk.1, by unfold wb_rg; decide⟩, fun _ _ => rfl, fun a ha => ?_, wb_R_k (wb_R_k hR (by decide)) (by decide)⟩
  · rw [wb_rdu, if_pos rfl, if_pos rfl]
  · rw [sw_up_ne (by omega), sw_up_ne (by omega)]
/-- saved, and then the room has changed -/
theorem wb_res_do {F G : Option (Int × sw_T)} {T Tm T1 Tm1 T2 Tm2 : sw_T} {N N' v : Int} (R1 : wb_R T1 Tm1 N) (s : wb_sv T (sw_up Tm 221 0 0) T1 Tm1) (c1 : wb_fc 1 T1 T2) (c2 : wb_fm Tm1 Tm2) (hN : N ≤ N') (J : wb_iw T2 1 N') (R2 : wb_rp T2 1 (Tm2 222)) (eF : F = some (0, sw_up T2 228 0 v)) (eG : G = some (v, Tm2)) (hv : wb_rg v) : wb_res F G T Tm N' := by
  obtain ⟨s1, s2, s3⟩ := s
  refine wb_res_ok eF eG hv ?_ (fun a ha => ?_) (fun a ha => ?_) (wb_R_room R1 hN (fun a ha => c1 a (by omega)) ⟨c2 224 (by decide), c2 225 (by decide), c2 226 (by decide), by rw [c2 221 (by decide)], by rw [c2 221 (by decide)], by rw [c2 221 (by decide)], by rw [c2 221 (by decide)]⟩ J R2)
  · rw [c2 221 (by decide), s3 0 (by decide), wb_rdu, if_pos rfl, if_pos rfl]
  · rw [c1 a (by omega)]
    exact s1 a (by omega)
  · rw [c2 a (by omega), s2 a (by omega) (by omega)]
    exact sw_up_ne (by omega)
theorem wb_eli {α β γ : Type} {a : α} {f : α → γ} {g : β → γ} : sw_el (.inl a) f g = f a := rfl
theorem wb_elr {α β γ : Type} {a : β} {f : α → γ} {g : β → γ} : sw_el (.inr a) f g = g a := rfl
