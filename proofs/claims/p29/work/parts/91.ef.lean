/-! ===== the law's calls that change the room ===== -/
def wq_low (v n : Int) : Int := (v % 2147483648) % n
theorem wq_low_rg {v n : Int} (hn : 0 < n) : 0 ≤ wq_low v n ∧ wq_low v n < n := by
  unfold wq_low
  exact ⟨Int.emod_nonneg _ (by omega), Int.emod_lt_of_pos _ hn⟩
theorem wq_w201 {T : sw_T} {v n : Int} (hn : 0 < n ∧ n < 2147483648) : w201 T v n = some (wq_low v n) := by
  unfold w201
  rw [wb_dv ⟨⟨by omega, by omega⟩, hn⟩, Option.bind_some]
  rfl
def wq_op (F : Option ((Int × sw_T) ⊕ Nat)) (G : Option (Int × (Int → Int))) (T : sw_T) (N c : Int) (K : Int → Int) : Prop := ∃ v T2 M2, F = some (.inl (v, T2)) ∧ G = some (v, M2) ∧ (wb_rg v ∧ 0 ≤ v) ∧ wq_S T2 (N + 800) M2 K ∧ wq_sv T T2 c
def wq_m2 (r : Option (Int × sw_T)) : Option (Int × (Int → Int)) := r.map fun r => (r.1, r.2 222)
theorem wq_N0 {T : sw_T} {N : Int} {M K : Int → Int} (S : wq_S T N M K) : 0 ≤ N := by
  have := S.1.1.1.1.2.1.1
  omega
theorem wq_o_hire {T : sw_T} {N c v : Int} {M K : Int → Int} (S : wq_S T N M K) (hc : T 73 1 = c) (h6 : c < 6) (h66 : T 1 1 < 6) (hv : 1 ≤ v ∧ v ≤ 9) : wq_op (w59 T v) (wq_m2 (w124 (wq_TM M) v)) T N c K := by
  obtain ⟨T1, e1, lo, S1, s⟩ := wq_save S hc h6
  have I := S1.1.1.1.1
  have R' : wb_rp T1 1 (wq_TM M 222) := S1.1.2
  have h11 : T1 1 = T 1 := lo 1 (by decide)
  have h1 : 2 ≤ T 1 1 ∧ T 1 1 ≤ 7 := S.1.1.1.1.2.1.2.1
  obtain ⟨T2, Tm2, g1, g2, g3, g4, g5, g6, g7⟩ := wb_hire I R' (by rw [h11]; omega) hv
  have E2 : we_E T2 1 := by
    have ex := wb_w26 (v := v) (T := T1) (b := 1) (by rw [h11]; omega)
    rw [ex] at g1
    cases g1
    exact (we_k_up (we_k_up (T := T1) ⟨S1.1.1.2, rfl⟩ (by decide)) (by decide)).1
  rw [h11] at g1 g2 g7
  obtain ⟨q1, q2⟩ := wq_did (N' := N + 800) S1 s S.2.2.2.1 ⟨by have := S.2.2.1; omega, h6⟩ (by omega) g5 ⟨⟨wb_iv_le g3 (by omega), by omega⟩, E2⟩ g4
  refine ⟨T 1 1, T2, Tm2 222, ?_, by rw [g2]; rfl, ⟨⟨by omega, by omega⟩, by omega⟩, q1, q2⟩
  unfold w59
  rw [wb_w91y hv, Option.bind_some, wb_eli, wb_r2 ⟨by omega, by omega⟩ (by decide), Option.bind_some, if_pos h66, e1, Option.bind_some, g1, Option.bind_some]
theorem wq_o_speed {T : sw_T} {N c p q : Int} {M K : Int → Int} (S : wq_S T N M K) (hc : T 73 1 = c) (h6 : c < 6) (hp : 0 ≤ p ∧ p < T 1 1) (hq : 1 ≤ q ∧ q ≤ 9) : wq_op (w60 T p q) (some (M (8 + 9 * p + 0), sw_ui M (8 + 9 * p + 0) q)) T N c K := by
  obtain ⟨T1, e1, lo, S1, s⟩ := wq_save S hc h6
  have I := S1.1.1.1.1
  have R' : wb_rp T1 1 (wq_TM M 222) := S1.1.2
  have h11 : T1 1 = T 1 := lo 1 (by decide)
  have h1 : 2 ≤ T 1 1 ∧ T 1 1 ≤ 7 := S.1.1.1.1.2.1.2.1
  obtain ⟨g1, g2, g3, g4, g5⟩ := wb_w27_ok I R' (by rw [h11]; exact hp) hq
  have hb := (I.2.2.1 p ⟨hp.1, by omega⟩).1
  have g2 : M (8 + 9 * p + 0) = T1 (1 + 2) p := g2
  have g4 : wb_rp (sw_up T1 (1 + 2) p q) 1 (sw_ui M (8 + 9 * p + 0) q) := by
    rw [wb_m] at g4
    exact g4
  obtain ⟨q1, q2⟩ := wq_did (N' := N + 800) S1 s S.2.2.2.1 ⟨by have := S.2.2.1; omega, h6⟩ (by omega) (wb_fc.rf.up (by decide)) ⟨⟨wb_iv_le g5 (by omega), by rw [sw_up_ne (by decide), h11]; exact S.1.1.1.2⟩, (we_k_up (T := T1) ⟨S1.1.1.2, rfl⟩ (by decide)).1⟩ g4
  refine ⟨T1 (1 + 2) p, _, _, ?_, by rw [g2], ⟨⟨by omega, by omega⟩, by omega⟩, q1, q2⟩
  unfold w60
  rw [wb_w90y h1 hp, Option.bind_some, wb_eli, wb_w91y hq, Option.bind_some, wb_eli, e1, Option.bind_some, g1, Option.bind_some]
theorem wq_o_wake {T : sw_T} {N c p : Int} {M K : Int → Int} (S : wq_S T N M K) (hc : T 73 1 = c) (h6 : c < 6) (hp : 0 ≤ p ∧ p < T 1 1) : wq_op (w62 T p) (wq_m2 (w129 (wq_TM M) p)) T N c K := by
  obtain ⟨T1, e1, lo, S1, s⟩ := wq_save S hc h6
  have I := S1.1.1.1.1
  have R' : wb_rp T1 1 (wq_TM M 222) := S1.1.2
  have h11 : T1 1 = T 1 := lo 1 (by decide)
  have h1 : 2 ≤ T 1 1 ∧ T 1 1 ≤ 7 := S.1.1.1.1.2.1.2.1
  obtain ⟨g1, g2, Tm2, g3, g4, g5⟩ := wb_rou_ok I R' (by rw [h11]; exact hp)
  have hb := (I.2.2.1 p ⟨hp.1, by omega⟩).2.2.2.1
  obtain ⟨q1, q2⟩ := wq_did (T2 := wb_rou T1 1 p) (N' := N + 800) S1 s S.2.2.2.1 ⟨by have := S.2.2.1; omega, h6⟩ (by omega) (by unfold wb_rou; exact (wb_fc.rf.up (by decide)).up (by decide)) ⟨⟨wb_iv_le g2 (by omega), by unfold wb_rou; rw [sw_up_ne (by decide), sw_up_ne (by decide), h11]; exact S.1.1.1.2⟩, (we_rou S1.1.1.2).1⟩ g4
  refine ⟨T1 (1 + 5) p, _, _, ?_, by rw [g3]; rfl, ⟨⟨by omega, by omega⟩, by omega⟩, q1, q2⟩
  unfold w62
  rw [wb_w90y h1 hp, Option.bind_some, wb_eli, e1, Option.bind_some, g1, Option.bind_some]
theorem wq_o_set {T : sw_T} {N c p q lo' hi' : Int} {M K : Int → Int} (S : wq_S T N M K) (hc : T 73 1 = c) (h6 : c < 6) (hp : 0 ≤ p ∧ p < 3) (h2 : sw_gv 0 p = lo') (h3 : sw_gv 1 p = hi') (hq : lo' ≤ q ∧ q ≤ hi') (hb : 0 ≤ lo' ∧ hi' ≤ 99) (hs : (p = 0 → 2 ≤ q ∧ q ≤ 99) ∧ (p = 1 → 0 ≤ q ∧ q ≤ 2) ∧ (p = 2 → 1 ≤ q ∧ q ≤ 20)) : wq_op (w64 T p q) (some (M p, sw_ui M p q)) T N c K := by
  obtain ⟨T1, e1, lo, S1, s⟩ := wq_save S hc h6
  have I := S1.1.1.1.1
  have R := S1.1.2
  have h11 : T1 1 = T 1 := lo 1 (by decide)
  have h1 : 2 ≤ T1 1 1 ∧ T1 1 1 ≤ 7 := I.2.1.2.1
  have g1 := wb_set_iv I hp hs
  have g2 := wb_up_set (v := q) R hp
  have g3 : M p = T1 2 p := wb_rd_set R h1.1 hp
  have hrg : 0 ≤ T1 2 p ∧ T1 2 p ≤ 99 := by
    have hi : (2 ≤ T1 2 0 ∧ T1 2 0 ≤ 99) ∧ (0 ≤ T1 2 1 ∧ T1 2 1 ≤ 2) ∧ (1 ≤ T1 2 2 ∧ T1 2 2 ≤ 20) := I.1
    have e : p = 0 ∨ p = 1 ∨ p = 2 := by omega
    rcases e with rfl | rfl | rfl
    · have := hi.1; omega
    · have := hi.2.1; omega
    · have := hi.2.2; omega
  obtain ⟨q1, q2⟩ := wq_did (T2 := sw_up T1 2 p q) (N' := N + 800) S1 s S.2.2.2.1 ⟨by have := S.2.2.1; omega, h6⟩ (by omega) (fun a ha => sw_up_ne (by omega)) ⟨⟨wb_iv_le g1 (by omega), by rw [sw_up_ne (by decide), h11]; exact S.1.1.1.2⟩, (we_k_up (T := T1) (b := 1) ⟨S1.1.1.2, rfl⟩ (by decide)).1⟩ g2
  refine ⟨T1 2 p, _, _, ?_, by rw [g3], ⟨⟨by omega, by omega⟩, by omega⟩, q1, q2⟩
  unfold w64
  rw [wb_w92y hp, Option.bind_some, wb_eli, wb_ix ⟨hp.1, by omega⟩, Option.bind_some, h2, wb_r2 ⟨by omega, by omega⟩ ⟨by omega, by omega⟩, Option.bind_some, if_neg (by omega), Option.bind_some, h3, wb_r2 ⟨by omega, by omega⟩ ⟨by omega, by omega⟩, Option.bind_some, if_neg (by omega), e1, Option.bind_some, wb_ld ⟨hp.1, by omega⟩, Option.bind_some, wb_st ⟨hp.1, by omega⟩, Option.bind_some]
theorem wq_o_lay {T : sw_T} {N c p q : Int} {M K : Int → Int} (S : wq_S T N M K) (hc : T 73 1 = c) (h6 : c < 6) (hp : 0 ≤ p ∧ p < T 1 1) (hq : 1 ≤ q ∧ q ≤ 99) (hh : T 12 p < 16) (h120 : T 21 0 < 120) : wq_op (w61 T p q) (wq_m2 (w109 (wq_TM M) p q)) T N c K := by
  obtain ⟨T1, e1, lo, S1, s⟩ := wq_save S hc h6
  have I := S1.1.1.1.1
  have I0 := S.1.1.1.1
  have R' : wb_rp T1 1 (wq_TM M 222) := S1.1.2
  have R0 : wb_rp T 1 (wq_TM M 222) := S.1.2
  have h11 : T1 1 = T 1 := lo 1 (by decide)
  have h12 : T1 (1 + 11) = T (1 + 11) := lo _ (by decide)
  have h21 : T1 (1 + 20) = T (1 + 20) := lo _ (by decide)
  have h1 : 2 ≤ T 1 1 ∧ T 1 1 ≤ 7 := I0.2.1.2.1
  have hcc : 0 ≤ T (1 + 20) 0 ∧ T (1 + 20) 0 ≤ 120 := I0.2.1.2.2.2.2
  have hp7 : 0 ≤ p ∧ p < 7 := ⟨hp.1, by omega⟩
  have hhh : 0 ≤ T (1 + 11) p ∧ T (1 + 11) p ≤ 16 := (I0.2.2.1 p hp7).2.2.2.2.2.2.2
  have hl : T (1 + 11) p < 16 ∧ T (1 + 20) 0 < 120 := ⟨hh, h120⟩
  obtain ⟨l1, -⟩ := wb_w29 I0 R0 hp
  rw [if_pos hl] at l1
  have hw1 : 0 ≤ p ∧ p < T1 1 1 := by rw [h11]; exact hp
  obtain ⟨g1, Tm2, g2, g3, g4⟩ := wb_com_ok (w := p) (k := q) R' (by rw [h11]; exact h1) (fun w hw => (I.2.2.1 w hw).2.2.2.1) (by rw [h21]; exact ⟨hcc.1, hl.2⟩) hw1 (by rw [h12]; exact ⟨hhh.1, hl.1⟩)
  have g5 := wb_com_iv (k := q) I hw1 ⟨by omega, hq.2⟩ (by rw [h21]; exact hl.2) (by rw [h12]; exact hl.1)
  obtain ⟨q1, q2⟩ := wq_did (N' := N + 800) S1 s S.2.2.2.1 ⟨by have := S.2.2.1; omega, h6⟩ (by omega) (wb_com_fc (k := q) hp7) ⟨⟨wb_iv_le g5 (by omega), by rw [wb_com_sm.1, h11]; exact S.1.1.1.2⟩, (we_com S1.1.1.2 hp7 (by rw [h21]; exact hcc.1) hq.1).1⟩ g3
  refine ⟨T1 (1 + 20) 0, _, _, ?_, by rw [g2]; rfl, ⟨⟨by rw [h21]; omega, by rw [h21]; omega⟩, by rw [h21]; omega⟩, q1, q2⟩
  unfold w61
  rw [wb_w90y h1 hp, Option.bind_some, wb_eli, wb_r2 ⟨by omega, by omega⟩ (by decide), Option.bind_some, if_neg (by omega), wb_r2 ⟨by omega, by omega⟩ (by decide), Option.bind_some, if_neg (by omega), l1, Option.bind_some, wb_r1 (by decide), Option.bind_some, if_neg (by decide), e1, Option.bind_some, g1, Option.bind_some]
/-- the minutes on the reference's row -/
def wq_mp (M : Int → Int) (p : Int) : Option (Int × (Int → Int)) := (w120 (wq_TM M) p).bind fun B => (w121 (wq_TM M) 4).bind fun x => (w121 B 4).bind fun y => some (y - x, B 222)
theorem wq_o_pass {T : sw_T} {N c p : Int} {M K : Int → Int} (S : wq_S T N M K) (hc : T 73 1 = c) (h6 : c < 6) (hp : 1 ≤ p ∧ p ≤ 99) : ∃ v T2 M2, w63 T p = some (.inl (v, T2)) ∧ wq_mp M p = some (v, M2) ∧ (wb_rg v ∧ 0 ≤ v) ∧ wq_S T2 (N + 800) M2 K ∧ wq_sv T T2 c ∧ wb_s7 (T2 7) = wb_s7 (T 7) + v := by
  obtain ⟨T1, e1, lo, S1, s⟩ := wq_save S hc h6
  have I := S1.1.1.1.1
  have I0 := S.1.1.1.1
  have R' : wb_rp T1 1 (wq_TM M 222) := S1.1.2
  have R0 : wb_rp T 1 (wq_TM M 222) := S.1.2
  have h7 : T1 7 = T 7 := lo 7 (by decide)
  have h11 : T1 1 = T 1 := lo 1 (by decide)
  obtain ⟨T2, Tm2, g1, g2, g3, g4, g5, g6, g7⟩ := wb_pass (c := p) (N := N) ⟨by omega, by omega⟩ I R' wq_TM_9
  obtain ⟨f1, -, f3⟩ := we_pass (c := p) ⟨by omega, by omega⟩ I R' S1.1.1.2 wq_TM_9 g1
  have f3 : wb_s7 (T1 7) ≤ wb_s7 (T2 7) := f3
  have b1 : 0 ≤ wb_s7 (T1 7) ∧ wb_s7 (T1 7) ≤ T1 21 0 := wb_s7_sewn I
  have b2 : 0 ≤ wb_s7 (T2 7) ∧ wb_s7 (T2 7) ≤ T2 21 0 := wb_s7_sewn g3
  have c1 : 0 ≤ T1 21 0 ∧ T1 21 0 ≤ 120 := I.2.1.2.2.2.2
  have c2 : 0 ≤ T2 21 0 ∧ T2 21 0 ≤ 120 := g3.2.1.2.2.2.2
  obtain ⟨q1, q2⟩ := wq_did (N' := N + 800) S1 s S.2.2.2.1 ⟨by have := S.2.2.1; omega, h6⟩ (by omega) g5 ⟨⟨wb_iv_le g3 (by omega), by rw [g7.1, h11]; exact S.1.1.1.2⟩, f1⟩ g4
  have w1' : w45 1 T1 = some (wb_s7 (T1 7)) := wb_w45 I
  have w2' : w45 1 T2 = some (wb_s7 (T2 7)) := wb_w45 g3
  have v1' : w121 (wq_TM M) 4 = some (wb_s7 (T1 7)) := wb_w121_6 I R'
  have v2' : w121 Tm2 4 = some (wb_s7 (T2 7)) := wb_w121_6 g3 g4
  refine ⟨wb_s7 (T2 7) - wb_s7 (T1 7), T2, Tm2 222, ?_, ?_, ⟨⟨by omega, by omega⟩, by omega⟩, q1, q2, by rw [← h7]; omega⟩
  · unfold w63
    rw [wb_r2 ⟨by omega, by omega⟩ (by decide), Option.bind_some, if_neg (by omega), wb_r2 ⟨by omega, by omega⟩ (by decide), Option.bind_some, if_neg (by omega), e1, Option.bind_some, w1', Option.bind_some, g1, Option.bind_some, w2', Option.bind_some]
  · unfold wq_mp
    rw [g2, Option.bind_some, v1', Option.bind_some, v2', Option.bind_some]
