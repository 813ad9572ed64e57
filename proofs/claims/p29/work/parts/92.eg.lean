/-! ===== one turn's call ===== -/
def wq_dur (w : Int) : Int := 1 + wq_low w (if (w / 1048576) % 4 = 0 then 60 else 5)
def wq_sk (w : Int) : Int := wq_low w 3
def wq_sq (w : Int) : Int := if wq_sk w = 0 then 2 + wq_low (w / 4) 98 else if wq_sk w = 1 then wq_low (w / 4) 3 else 1 + wq_low (w / 4) 20
/-- what the call comes to, on a row -/
def wq_act (M : Int → Int) (v w : Int) : Option (Int × (Int → Int)) :=
  if v % 16 = 0 then (if M 4 = 6 then some (-9, M) else wq_m2 (w124 (wq_TM M) (1 + wq_low w 9)))
  else if v % 16 = 1 then some (M (8 + 9 * wq_low (v / 16) (M 4) + 0), sw_ui M (8 + 9 * wq_low (v / 16) (M 4) + 0) (1 + wq_low w 9))
  else if v % 16 = 2 then wq_m2 (w129 (wq_TM M) (wq_low (v / 16) (M 4)))
  else if v % 16 = 3 then some (M (wq_sk w), sw_ui M (wq_sk w) (wq_sq w))
  else if v % 16 < 9 then wq_mp M (wq_dur w)
  else if M (8 + 9 * wq_low (v / 16) (M 4) + 8) = 16 ∨ M 5 = 120 then some (-9, M)
  else wq_m2 (w109 (wq_TM M) (wq_low (v / 16) (M 4)) (1 + wq_low w 99))
def wq_res (T : sw_T) (N c : Int) (M K : Int → Int) (v w : Int) : Prop := ∃ got T2 M2, w203 T v w = some (got, T2) ∧ wq_act M v w = some (got, M2) ∧ wb_rg got ∧ ((got = -9 ∧ T2 = T ∧ M2 = M) ∨ (0 ≤ got ∧ wq_S T2 (N + 800) M2 K ∧ wq_sv T T2 c)) ∧ (3 < v % 16 ∧ v % 16 < 9 → wb_s7 (T2 7) = wb_s7 (T 7) + got)
def wq_un (F : Option ((Int × sw_T) ⊕ Nat)) : Option (Int × sw_T) := F.bind fun r => sw_el r (fun r => some ((r.1, r.2))) (fun _ => none)
theorem wq_fin {F : Option ((Int × sw_T) ⊕ Nat)} {G : Option (Int × (Int → Int))} {T : sw_T} {N c v w : Int} {M K : Int → Int} (h : wq_op F G T N c K) (eF : w203 T v w = wq_un F) (eG : wq_act M v w = G) (hk : ¬ (3 < v % 16 ∧ v % 16 < 9)) : wq_res T N c M K v w := by
  obtain ⟨x, T2, M2, h1, h2, h3, h4, h5⟩ := h
  refine ⟨x, T2, M2, ?_, by rw [eG, h2], h3.1, .inr ⟨h3.2, h4, h5⟩, fun q => absurd q hk⟩
  rw [eF, h1]
  rfl
theorem wq_act_ok {T : sw_T} {N c v w : Int} {M K : Int → Int} (S : wq_S T N M K) (hc : T 73 1 = c) (h6 : c < 6) (hv : wb_rg v) (hw : wb_rg w) : wq_res T N c M K v w := by
  have I := S.1.1.1.1
  have R := S.1.2
  have h1 : 2 ≤ T 1 1 ∧ T 1 1 ≤ 7 := I.2.1.2.1
  have h16 : T 1 1 ≤ 6 := S.1.1.1.2
  have hcc : 0 ≤ T 21 0 ∧ T 21 0 ≤ 120 := I.2.1.2.2.2.2
  obtain ⟨-, m4, m5, -, -⟩ := wb_rd_sc R h1.1
  have m5 : M 5 = T 21 0 := m5
  have hwho := wq_low_rg (v := v / 16) (n := T 1 1) (by omega)
  have hv' : -2147483648 ≤ v ∧ v < 2147483648 := hv
  have hw' : -2147483648 ≤ w ∧ w < 2147483648 := hw
  have l9 := wq_low_rg (v := w) (n := 9) (by decide)
  have l99 := wq_low_rg (v := w) (n := 99) (by decide)
  -- the beginning
  have e0 : ∀ X, w203 T v w = X ↔ (w203 T v w = X) := fun X => Iff.rfl
  by_cases k0 : v % 16 = 0
  · by_cases h66 : T 1 1 = 6
    · refine ⟨-9, T, M, ?_, ?_, wb_rgd (by decide), .inl ⟨rfl, rfl, rfl⟩, fun q => by omega⟩
      · unfold w203
        rw [wb_r1 hv, Option.bind_some, wq_c1, Option.bind_some, wb_eli, wq_w201 ⟨by omega, by omega⟩, Option.bind_some, wb_r1 ⟨by omega, by omega⟩, Option.bind_some, if_pos k0, Option.bind_some, wb_eli, wb_r2 ⟨by omega, by omega⟩ (by decide), Option.bind_some, if_pos h66]
      · unfold wq_act
        rw [if_pos k0, m4, if_pos h66]
    · refine wq_fin (wq_o_hire S hc h6 (by omega) (v := 1 + wq_low w 9) ⟨by omega, by omega⟩) ?_ ?_ (by omega)
      · unfold w203
        rw [wb_r1 hv, Option.bind_some, wq_c1, Option.bind_some, wb_eli, wq_w201 ⟨by omega, by omega⟩, Option.bind_some, wb_r1 ⟨by omega, by omega⟩, Option.bind_some, if_pos k0, Option.bind_some, wb_eli, wb_r2 ⟨by omega, by omega⟩ (by decide), Option.bind_some, if_neg h66, wq_w201 (by decide), Option.bind_some]
        rfl
      · unfold wq_act
        rw [if_pos k0, m4, if_neg h66]
  · by_cases k1 : v % 16 = 1
    · refine wq_fin (wq_o_speed S hc h6 (p := wq_low (v / 16) (T 1 1)) (q := 1 + wq_low w 9) hwho ⟨by omega, by omega⟩) ?_ ?_ (by omega)
      · unfold w203
        rw [wb_r1 hv, Option.bind_some, wq_c1, Option.bind_some, wb_eli, wq_w201 ⟨by omega, by omega⟩, Option.bind_some, wb_r1 ⟨by omega, by omega⟩, Option.bind_some, if_neg k0, if_pos k1, wq_w201 (by decide), Option.bind_some]
        rfl
      · unfold wq_act
        rw [if_neg k0, if_pos k1, m4]
    · by_cases k2 : v % 16 = 2
      · refine wq_fin (wq_o_wake S hc h6 (p := wq_low (v / 16) (T 1 1)) hwho) ?_ ?_ (by omega)
        · unfold w203
          rw [wb_r1 hv, Option.bind_some, wq_c1, Option.bind_some, wb_eli, wq_w201 ⟨by omega, by omega⟩, Option.bind_some, wb_r1 ⟨by omega, by omega⟩, Option.bind_some, if_neg k0, if_neg k1, if_pos k2]
          rfl
        · unfold wq_act
          rw [if_neg k0, if_neg k1, if_pos k2, m4]
      · by_cases k3 : v % 16 = 3
        · have l3 : 0 ≤ wq_sk w ∧ wq_sk w < 3 := wq_low_rg (v := w) (n := 3) (by decide)
          have a98 := wq_low_rg (v := w / 4) (n := 98) (by decide)
          have a3 := wq_low_rg (v := w / 4) (n := 3) (by decide)
          have a20 := wq_low_rg (v := w / 4) (n := 20) (by decide)
          have eG : wq_act M v w = some (M (wq_sk w), sw_ui M (wq_sk w) (wq_sq w)) := by
            unfold wq_act
            rw [if_neg k0, if_neg k1, if_neg k2, if_pos k3]
          have e3 : w201 T w 3 = some (wq_sk w) := wq_w201 (by decide)
          have eF : w203 T v w = wq_un (w64 T (wq_sk w) (wq_sq w)) := by
            unfold w203
            rw [wb_r1 hv, Option.bind_some, wq_c1, Option.bind_some, wb_eli, wq_w201 ⟨by omega, by omega⟩, Option.bind_some, wb_r1 ⟨by omega, by omega⟩, Option.bind_some, if_neg k0, if_neg k1, if_neg k2, if_pos k3, e3, Option.bind_some, wb_r1 ⟨by omega, by omega⟩, Option.bind_some]
            unfold wq_sq
            by_cases q0 : wq_sk w = 0
            · rw [if_pos q0, if_pos q0, wb_r1 hw, Option.bind_some, wq_w201 (by decide), Option.bind_some]
              rfl
            · rw [if_neg q0, if_neg q0, wb_r2 ⟨by omega, by omega⟩ (by decide), Option.bind_some]
              by_cases q1 : wq_sk w = 1
              · rw [if_pos q1, if_pos q1, wb_r1 hw, Option.bind_some, wq_w201 (by decide), Option.bind_some]
                rfl
              · rw [if_neg q1, if_neg q1, wb_r1 hw, Option.bind_some, wq_w201 (by decide), Option.bind_some]
                rfl
          have hsq : (wq_sk w = 0 → 2 ≤ wq_sq w ∧ wq_sq w ≤ 99) ∧ (wq_sk w = 1 → 0 ≤ wq_sq w ∧ wq_sq w ≤ 2) ∧ (wq_sk w = 2 → 1 ≤ wq_sq w ∧ wq_sq w ≤ 20) := by
            unfold wq_sq
            refine ⟨fun q => ?_, fun q => ?_, fun q => ?_⟩
            · rw [if_pos q]; omega
            · rw [if_neg (by omega), if_pos q]; omega
            · rw [if_neg (by omega), if_neg (by omega)]; omega
          have e : wq_sk w = 0 ∨ wq_sk w = 1 ∨ wq_sk w = 2 := by omega
          rcases e with e | e | e
          · exact wq_fin (wq_o_set S hc h6 l3 (lo' := 2) (hi' := 99) (by rw [e]; rfl) (by rw [e]; rfl) (hsq.1 e) (by decide) hsq) eF eG (by omega)
          · exact wq_fin (wq_o_set S hc h6 l3 (lo' := 0) (hi' := 2) (by rw [e]; rfl) (by rw [e]; rfl) (hsq.2.1 e) (by decide) hsq) eF eG (by omega)
          · exact wq_fin (wq_o_set S hc h6 l3 (lo' := 1) (hi' := 20) (by rw [e]; rfl) (by rw [e]; rfl) (hsq.2.2 e) (by decide) hsq) eF eG (by omega)
        · by_cases k9 : v % 16 < 9
          · have a60 := wq_low_rg (v := w) (n := 60) (by decide)
            have a5 := wq_low_rg (v := w) (n := 5) (by decide)
            have hP : ((sw_r1 w).bind fun _u => (sw_r1 ((w / 1048576) % 4)).bind fun _u => if ((w / 1048576) % 4) = 0 then (w201 T w 60).bind fun r83 => wq_un (w63 T (1 + r83)) else (w201 T w 5).bind fun r91 => wq_un (w63 T (1 + r91))) = wq_un (w63 T (wq_dur w)) := by
              rw [wb_r1 hw, Option.bind_some, wb_r1 ⟨by omega, by omega⟩, Option.bind_some]
              unfold wq_dur
              by_cases q : (w / 1048576) % 4 = 0
              · rw [if_pos q, if_pos q, wq_w201 (by decide), Option.bind_some]
              · rw [if_neg q, if_neg q, wq_w201 (by decide), Option.bind_some]
            have eF : w203 T v w = wq_un (w63 T (wq_dur w)) := by
              rw [← hP]
              unfold w203
              rw [wb_r1 hv, Option.bind_some, wq_c1, Option.bind_some, wb_eli, wq_w201 ⟨by omega, by omega⟩, Option.bind_some, wb_r1 (a := v % 16) ⟨by omega, by omega⟩, Option.bind_some, if_neg k0, if_neg k1, if_neg k2, if_neg k3]
              by_cases q4 : v % 16 = 4
              · rw [if_pos q4]
                rfl
              · rw [if_neg q4]
                by_cases q5 : v % 16 = 5
                · rw [if_pos q5]
                  rfl
                · rw [if_neg q5]
                  by_cases q6 : v % 16 = 6
                  · rw [if_pos q6]
                    rfl
                  · rw [if_neg q6]
                    by_cases q7 : v % 16 = 7
                    · rw [if_pos q7]
                      rfl
                    · rw [if_neg q7, if_pos (show v % 16 = 8 by omega)]
                      rfl
            have hd : 1 ≤ wq_dur w ∧ wq_dur w ≤ 99 := by
              unfold wq_dur
              by_cases q : (w / 1048576) % 4 = 0
              · rw [if_pos q]; omega
              · rw [if_neg q]; omega
            obtain ⟨x, T2, M2, g1, g2, g3, g4, g5, g6⟩ := wq_o_pass S hc h6 hd
            refine ⟨x, T2, M2, ?_, ?_, g3.1, .inr ⟨g3.2, g4, g5⟩, fun _ => g6⟩
            · rw [eF, g1]
              rfl
            · unfold wq_act
              rw [if_neg k0, if_neg k1, if_neg k2, if_neg k3, if_pos k9, g2]
          · have hh : 0 ≤ T 12 (wq_low (v / 16) (T 1 1)) ∧ T 12 (wq_low (v / 16) (T 1 1)) ≤ 16 := (I.2.2.1 _ ⟨hwho.1, by omega⟩).2.2.2.2.2.2.2
            have mh : M (8 + 9 * wq_low (v / 16) (T 1 1) + 8) = T 12 (wq_low (v / 16) (T 1 1)) := wb_rd_hgt R h1.2 hwho
            have eF : w203 T v w = (sw_r2 (T 12 (wq_low (v / 16) (T 1 1))) 16).bind fun _u => if T 12 (wq_low (v / 16) (T 1 1)) = 16 then some (((-9), T)) else (w75 T 2).bind fun r187 => sw_el r187 (fun r188 => (sw_r2 r188 120).bind fun _u => if r188 = 120 then some (((-9), T)) else (w201 T w 99).bind fun r195 => wq_un (w61 T (wq_low (v / 16) (T 1 1)) (1 + r195))) (fun E189 => none) := by
              unfold w203
              rw [wb_r1 hv, Option.bind_some, wq_c1, Option.bind_some, wb_eli, wq_w201 ⟨by omega, by omega⟩, Option.bind_some, wb_r1 (a := v % 16) ⟨by omega, by omega⟩, Option.bind_some, if_neg k0, if_neg k1, if_neg k2, if_neg k3, if_neg (show ¬ v % 16 = 4 by omega), if_neg (show ¬ v % 16 = 5 by omega), if_neg (show ¬ v % 16 = 6 by omega), if_neg (show ¬ v % 16 = 7 by omega), if_neg (show ¬ v % 16 = 8 by omega), wq_s1 I hwho, Option.bind_some, wb_eli]
              rfl
            rw [wb_r2 ⟨by omega, by omega⟩ (by decide), Option.bind_some] at eF
            have eG : wq_act M v w = if T 12 (wq_low (v / 16) (T 1 1)) = 16 ∨ T 21 0 = 120 then some (-9, M) else wq_m2 (w109 (wq_TM M) (wq_low (v / 16) (T 1 1)) (1 + wq_low w 99)) := by
              unfold wq_act
              rw [if_neg k0, if_neg k1, if_neg k2, if_neg k3, if_neg k9, m4, mh, m5]
            by_cases qh : T 12 (wq_low (v / 16) (T 1 1)) = 16
            · rw [if_pos qh] at eF
              rw [if_pos (Or.inl qh)] at eG
              exact ⟨-9, T, M, eF, eG, wb_rgd (by decide), .inl ⟨rfl, rfl, rfl⟩, fun q => by omega⟩
            · rw [if_neg qh, wq_c2, Option.bind_some, wb_eli, wb_r2 ⟨by omega, by omega⟩ (by decide), Option.bind_some] at eF
              by_cases qc : T 21 0 = 120
              · rw [if_pos qc] at eF
                rw [if_pos (Or.inr qc)] at eG
                exact ⟨-9, T, M, eF, eG, wb_rgd (by decide), .inl ⟨rfl, rfl, rfl⟩, fun q => by omega⟩
              · rw [if_neg qc, wq_w201 (by decide), Option.bind_some] at eF
                rw [if_neg (by omega)] at eG
                exact wq_fin (wq_o_lay S hc h6 hwho (q := 1 + wq_low w 99) ⟨by omega, by omega⟩ (by omega) (by omega)) eF eG (by omega)
