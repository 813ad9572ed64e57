/-! ===== what is tried and taken back ===== -/
def wb_tri (T Tm T' C : sw_T) : Prop := (∀ a, a < 49 ∨ 73 ≤ a → T' a = T a) ∧ (∀ a, a ≠ 221 → a ≠ 222 → a ≠ 223 → C a = Tm a) ∧ (∀ i, 0 ≤ i ∧ i < 543 → C 222 i = Tm 222 i) ∧ (∀ k, C 221 k = Tm 221 k)
theorem wb_R_trial {T Tm T' C : sw_T} {N : Int} (h : wb_R T Tm N) (t : wb_tri T Tm T' C) : wb_R T' C N := by
  obtain ⟨t1, t2, t3, t4⟩ := t
  have hr : ∀ t : Nat, t < 24 → T' (1 + t) = T (1 + t) := fun t ht => t1 _ (by omega)
  exact wb_R_room h (Int.le_refl _) (fun a ha => t1 a (by omega)) ⟨t2 224 (by decide) (by decide) (by decide), t2 225 (by decide) (by decide) (by decide), t2 226 (by decide) (by decide) (by decide), t4 4, t4 6, t4 8, t4 9⟩ (wb_iw_fr h.1.1 hr) (wb_rp_cg (wb_iv_fr h.1.1.1 hr) (wb_rp_fr h.1.1.1 h.1.2 hr) t3)
theorem wb_done0 {T Tm : sw_T} {N sh al : Int} (h : wb_R T Tm N) (hs : (sh = 1 ∧ al = 0) ∨ (sh = 0 ∧ al = 1)) : ∃ v X X1 C, w24 49 1 T = some X ∧ w41 49 X sh = some (v, X1) ∧ w156 Tm al 0 = some (v, C) ∧ wb_rg v ∧ wb_tri T Tm X1 C := by
  obtain ⟨⟨I, R⟩, -, -, -, d⟩ := h
  obtain ⟨X, e1, e2, e3⟩ := wb_copy (b := 49) (c := 1) I.1 (.inr (by decide))
  obtain ⟨A, a1, a2, a3⟩ := wb_w106 (T := Tm)
  have iX := wb_iv_eq I.1 e3
  have rX : wb_rp X 49 (sw_up A 221 9 al 222) := by
    rw [sw_up_ne (by decide), a2 222 (by decide)]
    exact wb_rp_eq I.1 e3 R
  obtain ⟨v, X1, B, g1, g2, g3, g4, g5⟩ := wb_until (sh := sh) iX rX (by
    rw [wb_rdu, if_pos rfl, if_pos rfl]
    exact hs)
  obtain ⟨C, c1, c2, c3⟩ := wb_w107 (T := sw_up B 221 9 0)
  refine ⟨v, X, X1, C, e1, g1, ?_, ⟨by omega, by omega⟩, fun a ha => ?_, fun a h1 h2 h3 => ?_, fun i hi => ?_, fun k => ?_⟩
  · unfold w156
    rw [a1, Option.bind_some, wb_pb (by omega), Option.bind_some, wb_r1 (by decide), Option.bind_some, if_neg (by decide), g2, Option.bind_some, wb_pb (.inl rfl), Option.bind_some, c1, Option.bind_some]
  · rw [g3 a (by omega), e2 a (by omega)]
  · rw [c2 a h2, sw_up_ne h1, g4 a h2, sw_up_ne h1, a2 a h3]
  · rw [c3 i hi, sw_up_ne (by decide), g4 223 (by decide), sw_up_ne (by decide), a3 i hi]
  · rw [c2 221 (by decide), wb_rdu, if_pos rfl, g4 221 (by decide), wb_rdu, if_pos rfl, a2 221 (by decide)]
    by_cases hk : k = 9
    · subst hk
      exact d.symm
    · rw [if_neg hk, if_neg hk]
theorem wb_done1 {T Tm : sw_T} {N p : Int} (h : wb_R T Tm N) (hp : 1 ≤ p ∧ p ≤ 9) : ∃ v X r X1 C, w24 49 1 T = some X ∧ w26 49 X p = some r ∧ w41 49 r.2 1 = some (v, X1) ∧ w156 Tm 0 p = some (v, C) ∧ wb_rg v ∧ wb_tri T Tm X1 C := by
  obtain ⟨⟨I, R⟩, -, -, -, d⟩ := h
  obtain ⟨X, e1, e2, e3⟩ := wb_copy (b := 49) (c := 1) I.1 (.inr (by decide))
  obtain ⟨A, a1, a2, a3⟩ := wb_w106 (T := Tm)
  have iX := wb_iw_eq I e3
  have rX : wb_rp X 49 (sw_up A 221 9 0 222) := by
    rw [sw_up_ne (by decide), a2 222 (by decide)]
    exact wb_rp_eq I.1 e3 R
  obtain ⟨X2, B0, k1, k2, k3, k4, k5, k6, -⟩ := wb_hire (v := p) iX.1 rX (by have := iX.2; omega) hp
  obtain ⟨v, X1, B, g1, g2, g3, g4, g5⟩ := wb_until (sh := 1) k3 k4 (by
    rw [k6 221 (by decide), wb_rdu, if_pos rfl, if_pos rfl]
    exact .inl ⟨rfl, rfl⟩)
  obtain ⟨C, c1, c2, c3⟩ := wb_w107 (T := sw_up B 221 9 0)
  refine ⟨v, X, _, X1, C, e1, k1, g1, ?_, ⟨by omega, by omega⟩, fun a ha => ?_, fun a h1 h2 h3 => ?_, fun i hi => ?_, fun k => ?_⟩
  · unfold w156
    rw [a1, Option.bind_some, wb_pb (.inl rfl), Option.bind_some, wb_r1 ⟨by omega, by omega⟩, Option.bind_some, if_pos (by omega), k2, Option.bind_some, g2, Option.bind_some, wb_pb (.inl rfl), Option.bind_some, c1, Option.bind_some]
  · rw [g3 a (by omega), k5 a (by omega), e2 a (by omega)]
  · rw [c2 a h2, sw_up_ne h1, g4 a h2, k6 a h2, sw_up_ne h1, a2 a h3]
  · rw [c3 i hi, sw_up_ne (by decide), g4 223 (by decide), k6 223 (by decide), sw_up_ne (by decide), a3 i hi]
  · rw [c2 221 (by decide), wb_rdu, if_pos rfl, g4 221 (by decide), k6 221 (by decide), wb_rdu, if_pos rfl, a2 221 (by decide)]
    by_cases hk : k = 9
    · subst hk
      exact d.symm
    · rw [if_neg hk, if_neg hk]
theorem wb_z {T : sw_T} {b : Nat} {N : Int} (I : wb_iv T b N) (t : Nat) (ht : t = 6 ∨ t = 7 ∨ t = 9) : ∀ w, T b 1 ≤ w ∧ w < 7 → T (b + t) w = 0 := fun w hw => by
  rcases ht with rfl | rfl | rfl
  · exact (I.2.2.2.1 w hw).2.2.2.1
  · exact (I.2.2.2.1 w hw).2.2.2.2.1
  · exact (I.2.2.2.1 w hw).2.2.2.2.2.2.1
theorem wb_zr {T : sw_T} {b : Nat} {N : Int} (I : wb_iv T b N) (hN : N ≤ 100000000) (h120 : 0 ≤ N) (t : Nat) (ht : t = 6 ∨ t = 7 ∨ t = 9) : 0 ≤ wb_s7 (T (b + t)) ∧ wb_s7 (T (b + t)) ≤ 700000120 := by
  have hc := I.2.1.2.2.2.2
  rcases ht with rfl | rfl | rfl
  · have := wb_s7_sewn I
    omega
  · have := wb_s7_took I
    omega
  · have := wb_s7_bd (f := T (b + 9)) (m := N) (fun w hw => (I.2.2.1 w hw).2.2.2.2.2.2.1)
    omega
theorem wb_w160 {Tm A B C : sw_T} {p q s0 had v : Int} (a1 : w106 Tm = some A) (h1 : w121 A s0 = some had) (h2 : w120 A p = some B) (hq : wb_rg q ∧ q ≠ 3) (h3 : w121 B s0 = some v) (c1 : w107 B = some C) : w160_19 Tm p q s0 = some (v - had, C) := by
  unfold w160_19
  rw [a1, Option.bind_some, h1, Option.bind_some, h2, Option.bind_some, wb_r2 hq.1 (by decide), Option.bind_some, if_neg hq.2, h3, Option.bind_some, c1, Option.bind_some]
theorem wb_would {T Tm : sw_T} {N p q : Int} (h : wb_R T Tm N) (hN : N ≤ 90000000) (hp : 1 ≤ p ∧ p ≤ 200) (hq : 0 ≤ q ∧ q ≤ 3) : ∃ v X1 C, w81 T p q = some (.inl (v, X1)) ∧ w160 Tm p q = some (v, C) ∧ wb_rg v ∧ wb_tri T Tm X1 C := by
  obtain ⟨⟨I, R⟩, -, -, -, d⟩ := h
  have hN0 : 0 ≤ N := by have := I.1.2.1.1; omega
  obtain ⟨X, e1, e2, e3⟩ := wb_copy (b := 49) (c := 1) I.1 (.inr (by decide))
  obtain ⟨A, a1, a2, a3⟩ := wb_w106 (T := Tm)
  have iX := wb_iv_eq I.1 e3
  have hA : A 222 = Tm 222 := a2 222 (by decide)
  have rX : wb_rp X 49 (A 222) := by
    rw [hA]
    exact wb_rp_eq I.1 e3 R
  have rA : wb_rp T 1 (A 222) := by rw [hA]; exact R
  obtain ⟨X1, B, g1, g2, g3, g4, g5, g6, g7⟩ := wb_pass (c := p) ⟨by omega, by omega⟩ iX rX (by rw [a2 221 (by decide)]; exact d)
  obtain ⟨C, c1, c2, c3⟩ := wb_w107 (T := B)
  have i1 : wb_iv X1 1 N := wb_iv_fr I.1 (fun t ht => by rw [g5 _ (by omega), e2 _ (by omega)])
  have hX1 : ∀ a, a < 49 ∨ 73 ≤ a → X1 a = T a := fun a ha => by rw [g5 a (by omega), e2 a (by omega)]
  have tri : wb_tri T Tm X1 C := ⟨hX1, fun a h1 h2 h3 => by rw [c2 a h2, g6 a h2, a2 a h3], fun i hi => by rw [c3 i hi, g6 223 (by decide), a3 i hi], fun k => by rw [c2 221 (by decide), g6 221 (by decide), a2 221 (by decide)]⟩
  have key : ∀ (t : Nat), t = 6 ∨ t = 7 ∨ t = 9 → w48 49 (49 + t) X1 = some (wb_s7 (X1 (49 + t))) ∧ w48 1 (1 + t) X1 = some (wb_s7 (T (1 + t))) ∧ w121 A ((t : Int) - 2) = some (wb_s7 (T (1 + t))) ∧ w121 B ((t : Int) - 2) = some (wb_s7 (X1 (49 + t))) ∧ wb_rg (wb_s7 (X1 (49 + t)) - wb_s7 (T (1 + t))) := fun t ht => by
    have r1 := wb_zr I.1 (by omega) hN0 t ht
    have r2 := wb_zr g3 (by omega) (by omega) t ht
    refine ⟨wb_w48 g3.2.1.2.1 (wb_z g3 t ht), ?_, wb_w121_ok I.1 rA t (by omega) (wb_z I.1 t ht), wb_w121_ok g3 g4 t (by omega) (wb_z g3 t ht), ⟨by omega, by omega⟩⟩
    rw [wb_w48 (r := 1 + t) i1.2.1.2.1 (wb_z i1 t ht), hX1 (1 + t) (by omega)]
  have hcl : ∀ x : Int × sw_T, (((w24 49 1 T).bind fun r10 => (w32 49 r10 p).bind fun r12 => (sw_r1 q).bind fun _u => if q = 0 then (w45 49 r12).bind fun r16 => (w45 1 r12).bind fun r18 => some (.inl (((r16 - r18), r12))) else if q = 1 then (w48 49 56 r12).bind fun r21 => (w48 1 8 r12).bind fun r23 => some (.inl (((r21 - r23), r12))) else if q = 2 then (w48 49 58 r12).bind fun r26 => (w48 1 10 r12).bind fun r28 => some (.inl (((r26 - r28), r12))) else (w57 49 r12).bind fun r30 => some (.inl ((r30, r12)))) : Option ((Int × sw_T) ⊕ Nat)) = some (.inl x) → w81 T p q = some (.inl x) := fun x hx => by
    unfold w81
    rw [wb_r2 ⟨by omega, by omega⟩ (by decide), Option.bind_some, if_neg (by omega), wb_r2 ⟨by omega, by omega⟩ (by decide), Option.bind_some, if_neg (by omega), wb_r1 ⟨by omega, by omega⟩, Option.bind_some, if_neg (by omega), wb_r2 ⟨by omega, by omega⟩ (by decide), Option.bind_some, if_pos (by omega)]
    rw [wb_r1 (a := q) ⟨by omega, by omega⟩] at hx
    exact hx
  have e : q = 0 ∨ q = 1 ∨ q = 2 ∨ q = 3 := by omega
  rcases e with rfl | rfl | rfl | rfl
  · obtain ⟨k1, k2, k3, k4, k5⟩ := key 6 (by decide)
    refine ⟨_, X1, C, hcl _ ?_, ?_, k5, tri⟩
    · rw [e1, Option.bind_some, g1, Option.bind_some, wb_r1 (by decide), Option.bind_some, if_pos rfl, wb_w45 g3, Option.bind_some, wb_w45 i1, Option.bind_some, hX1 (1 + 6) (by decide)]
    · unfold w160
      rw [wb_r1 (by decide), Option.bind_some, if_pos rfl]
      exact wb_w160 a1 k3 g2 ⟨wb_rgd (by decide), by decide⟩ k4 c1
  · obtain ⟨k1, k2, k3, k4, k5⟩ := key 7 (by decide)
    refine ⟨_, X1, C, hcl _ ?_, ?_, k5, tri⟩
    · rw [e1, Option.bind_some, g1, Option.bind_some, wb_r1 (by decide), Option.bind_some, if_neg (by decide), if_pos rfl, k1, Option.bind_some, k2, Option.bind_some]
    · unfold w160
      rw [wb_r1 (by decide), Option.bind_some, if_neg (by decide), wb_r2 (by decide) (by decide), Option.bind_some, if_pos rfl]
      exact wb_w160 a1 k3 g2 ⟨wb_rgd (by decide), by decide⟩ k4 c1
  · obtain ⟨k1, k2, k3, k4, k5⟩ := key 9 (by decide)
    refine ⟨_, X1, C, hcl _ ?_, ?_, k5, tri⟩
    · rw [e1, Option.bind_some, g1, Option.bind_some, wb_r1 (by decide), Option.bind_some, if_neg (by decide), if_neg (by decide), if_pos rfl, k1, Option.bind_some, k2, Option.bind_some]
    · unfold w160
      rw [wb_r1 (by decide), Option.bind_some, if_neg (by decide), wb_r2 (by decide) (by decide), Option.bind_some, if_neg (by decide)]
      exact wb_w160 a1 k3 g2 ⟨wb_rgd (by decide), by decide⟩ k4 c1
  · obtain ⟨k1, k2, k3, k4, k5⟩ := key 9 (by decide)
    obtain ⟨v, l1, l2, l3, l4⟩ := wb_left g3 g4
    have k3' : w121 A 7 = some (wb_s7 (T (1 + 9))) := k3
    refine ⟨v, X1, C, hcl _ ?_, ?_, ⟨by omega, by omega⟩, tri⟩
    · rw [e1, Option.bind_some, g1, Option.bind_some, wb_r1 (by decide), Option.bind_some, if_neg (by decide), if_neg (by decide), if_neg (by decide), l1, Option.bind_some]
    · unfold w160 w160_19
      rw [wb_r1 (by decide), Option.bind_some, if_neg (by decide), wb_r2 (by decide) (by decide), Option.bind_some, if_neg (by decide), a1, Option.bind_some, k3', Option.bind_some, g2, Option.bind_some, wb_r2 (by decide) (by decide), Option.bind_some, if_pos rfl, l2, Option.bind_some, c1, Option.bind_some]
theorem wb_op_doneIn {T Tm : sw_T} {N : Int} (h : wb_R T Tm N) : wb_rs2 (w78 T) (w157 Tm) T Tm N := by
  have h0 := wb_R_k (k := 0) (v := 0) h (by decide)
  obtain ⟨v, X, X1, C, e1, e2, e3, e4, t⟩ := wb_done0 (sh := 1) (al := 0) h0 (.inl ⟨rfl, rfl⟩)
  refine ⟨v, X1, C, ?_, ?_, e4, fun a ha => t.1 a (by omega), fun a ha => by rw [t.2.1 a (by omega) (by omega) (by omega), sw_up_ne (by omega)], wb_R_trial h0 t⟩
  · unfold w78
    rw [e1, Option.bind_some, e2, Option.bind_some]
  · unfold w157
    rw [wb_pf, Option.bind_some, e3, Option.bind_some]
theorem wb_op_alone {T Tm : sw_T} {N : Int} (h : wb_R T Tm N) : wb_rs2 (w79 T) (w158 Tm) T Tm N := by
  have h0 := wb_R_k (k := 0) (v := 0) h (by decide)
  obtain ⟨v, X, X1, C, e1, e2, e3, e4, t⟩ := wb_done0 (sh := 0) (al := 1) h0 (.inr ⟨rfl, rfl⟩)
  refine ⟨v, X1, C, ?_, ?_, e4, fun a ha => t.1 a (by omega), fun a ha => by rw [t.2.1 a (by omega) (by omega) (by omega), sw_up_ne (by omega)], wb_R_trial h0 t⟩
  · unfold w79
    rw [e1, Option.bind_some, e2, Option.bind_some]
  · unfold w158
    rw [wb_pf, Option.bind_some, e3, Option.bind_some]
theorem wb_w80y {T X X1 : sw_T} {r : Int × sw_T} {p v : Int} (hp : 1 ≤ p ∧ p ≤ 9) (e1 : w24 49 1 T = some X) (e2 : w26 49 X p = some r) (e3 : w41 49 r.2 1 = some (v, X1)) : w80 T p = some (.inl (v, X1)) := by
  unfold w80
  rw [wb_w91y hp, Option.bind_some, wb_eli, e1, Option.bind_some, e2, Option.bind_some, e3, Option.bind_some]
theorem wb_op_with {T Tm : sw_T} {N p : Int} (h : wb_R T Tm N) (hp : wb_rg p) : wb_res (w185 T p) (w159 Tm p) T Tm N := by
  have h0 := wb_R_k (k := 0) (v := 0) h (by decide)
  by_cases hv : 1 ≤ p ∧ p ≤ 9
  · obtain ⟨v, X, r, X1, C, e1, e2, e3, e4, e5, t⟩ := wb_done1 h0 hv
    refine wb_res_ok (T1 := X1) (Tm1 := C) (v := v) (wb_h185 (wb_w80y hv e1 e2 e3) e5) ?_ e5 ?_ (fun a ha => t.1 a (by omega)) (fun a ha => by rw [t.2.1 a (by omega) (by omega) (by omega), sw_up_ne (by omega)]) (wb_R_trial h0 t)
    · unfold w159
      rw [wb_pf, Option.bind_some, wb_w96y (wb_rgd (by decide)) (wb_rgd (by decide)) hv, Option.bind_some, wb_r1 (by decide), Option.bind_some, if_neg (by decide), e4, Option.bind_some]
    · rw [t.2.2.2, wb_rdu, if_pos rfl, if_pos rfl]
  · refine wb_res_no (k := 1) (wb_t185_0 ?_) ?_ ⟨wb_rgd (by decide), by decide⟩ h
    · unfold w80
      rw [wb_w91n hp hv, Option.bind_some, wb_elr]
    · unfold w159
      rw [wb_pf, Option.bind_some, wb_w96n hp (wb_rgd (by decide)) (wb_rgd (by decide)) hv, Option.bind_some, wb_r1 (by decide), Option.bind_some, if_pos rfl, wb_w97, Option.bind_some]
theorem wb_op_would {T Tm : sw_T} {N p q : Int} (h : wb_R T Tm N) (hN : N ≤ 90000000) (hp : wb_rg p) (hq : wb_rg q) : wb_res (w186 T p q) (w161 Tm p q) T Tm N := by
  have h0 := wb_R_k (k := 0) (v := 0) h (by decide)
  by_cases hv : 1 ≤ p ∧ p ≤ 200
  · by_cases hw : 0 ≤ q ∧ q ≤ 3
    · obtain ⟨v, X1, C, e1, e2, e5, t⟩ := wb_would h0 hN hv hw
      refine wb_res_ok (T1 := X1) (Tm1 := C) (v := v) (wb_h186 e1 e5) ?_ e5 ?_ (fun a ha => t.1 a (by omega)) (fun a ha => by rw [t.2.1 a (by omega) (by omega) (by omega), sw_up_ne (by omega)]) (wb_R_trial h0 t)
      · unfold w161
        rw [wb_pf, Option.bind_some, wb_w96y (wb_rgd (by decide)) (wb_rgd (by decide)) hv, Option.bind_some, wb_r1 (by decide), Option.bind_some, if_neg (by decide), wb_w96y (wb_rgd (by decide)) (wb_rgd (by decide)) hw, Option.bind_some, wb_r1 (by decide), Option.bind_some, if_neg (by decide), e2, Option.bind_some]
      · rw [t.2.2.2, wb_rdu, if_pos rfl, if_pos rfl]
    · refine wb_res_no (k := 1) (wb_t186_0 ?_) ?_ ⟨wb_rgd (by decide), by decide⟩ h
      · unfold w81
        rw [wb_r2 hp (by decide), Option.bind_some, if_neg (by omega), wb_r2 hp (by decide), Option.bind_some, if_neg (by omega), wb_r1 hq, Option.bind_some]
        by_cases hq1 : q < 0
        · rw [if_pos hq1]
        · rw [if_neg hq1, wb_r2 hq (by decide), Option.bind_some, if_neg (by omega)]
      · unfold w161
        rw [wb_pf, Option.bind_some, wb_w96y (wb_rgd (by decide)) (wb_rgd (by decide)) hv, Option.bind_some, wb_r1 (by decide), Option.bind_some, if_neg (by decide), wb_w96n hq (wb_rgd (by decide)) (wb_rgd (by decide)) hw, Option.bind_some, wb_r1 (by decide), Option.bind_some, if_pos rfl, wb_w97, Option.bind_some]
  · refine wb_res_no (k := 1) (wb_t186_0 ?_) ?_ ⟨wb_rgd (by decide), by decide⟩ h
    · unfold w81
      rw [wb_r2 hp (by decide), Option.bind_some]
      by_cases hp1 : p < 1
      · rw [if_pos hp1]
      · rw [if_neg hp1, wb_r2 hp (by decide), Option.bind_some, if_pos (by omega)]
    · unfold w161
      rw [wb_pf, Option.bind_some, wb_w96n hp (wb_rgd (by decide)) (wb_rgd (by decide)) hv, Option.bind_some, wb_r1 (by decide), Option.bind_some, if_pos rfl, wb_w97, Option.bind_some]
