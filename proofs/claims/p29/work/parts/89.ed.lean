/-! ===== what the calls tell of a room, and the law's hash of it ===== -/
theorem wq_cw {T : sw_T} {q v : Int} (hq : 0 ≤ q ∧ q ≤ 10) (h : w43 1 T q = some v) : w75 T q = some (.inl v) := by
  unfold w75
  rw [wb_r1 ⟨by omega, by omega⟩, Option.bind_some, if_neg (by omega), wb_r2 ⟨by omega, by omega⟩ (by decide), Option.bind_some, if_pos (by omega), wb_r2 ⟨by omega, by omega⟩ (by decide), Option.bind_some, if_neg (by omega), h, Option.bind_some]
theorem wq_c11 {T : sw_T} : w75 T 11 = some (.inl (T 73 1)) := by
  unfold w75
  rw [wb_r1 (by decide), Option.bind_some, if_neg (by decide), wb_r2 (by decide) (by decide), Option.bind_some, if_pos (by decide), wb_r2 (by decide) (by decide), Option.bind_some, if_pos rfl]
theorem wq_c0 {T : sw_T} : w75 T 0 = some (.inl (T 1 0)) := wq_cw (by decide) rfl
theorem wq_c1 {T : sw_T} : w75 T 1 = some (.inl (T 1 1)) := wq_cw (by decide) rfl
theorem wq_c2 {T : sw_T} : w75 T 2 = some (.inl (T 21 0)) := wq_cw (by decide) rfl
theorem wq_c3 {T : sw_T} {N : Int} (I : wb_iv T 1 N) : w75 T 3 = some (.inl (wb_s7 (T 7))) := wq_cw (by decide) (by
  have e1 : w43 1 T 3 = (w45 1 T).bind fun v => some v := rfl
  rw [e1, wb_w45 I, Option.bind_some])
theorem wq_c4 {T : sw_T} {N : Int} (I : wb_iv T 1 N) : w75 T 4 = some (.inl (wb_s7 (T 12))) := wq_cw (by decide) (by
  have e1 : w43 1 T 4 = (w48 1 12 T).bind fun v => some v := rfl
  rw [e1, wb_w48 I.2.1.2.1 (fun w hw => (I.2.2.2.1 w hw).2.2.2.2.2.2.2), Option.bind_some])
theorem wq_c5 {T : sw_T} {N : Int} (I : wb_iv T 1 N) : w75 T 5 = some (.inl (wb_s7 (wb_hd T 1))) := wq_cw (by decide) (by
  have e1 : w43 1 T 5 = (w46 1 T).bind fun v => some v := rfl
  rw [e1, wb_w46 I, Option.bind_some])
theorem wq_c6 {T : sw_T} {N : Int} (I : wb_iv T 1 N) : w75 T 6 = some (.inl (wb_s7 (T 8))) := wq_cw (by decide) (by
  have e1 : w43 1 T 6 = (w48 1 8 T).bind fun v => some v := rfl
  rw [e1, wb_w48 I.2.1.2.1 (fun w hw => (I.2.2.2.1 w hw).2.2.2.2.1), Option.bind_some])
theorem wq_c7 {T : sw_T} {N : Int} (I : wb_iv T 1 N) : w75 T 7 = some (.inl (wb_s7 (T 10))) := wq_cw (by decide) (by
  have e1 : w43 1 T 7 = (w48 1 10 T).bind fun v => some v := rfl
  rw [e1, wb_w48 I.2.1.2.1 (fun w hw => (I.2.2.2.1 w hw).2.2.2.2.2.2.1), Option.bind_some])
theorem wq_c9 {T : sw_T} {N : Int} (I : wb_iv T 1 N) : w75 T 9 = some (.inl (wb_s7 (T 6))) := wq_cw (by decide) (by
  have e1 : w43 1 T 9 = (w47 1 T).bind fun v => some v := rfl
  rw [e1, wb_w47 I, Option.bind_some])
theorem wq_c10 {T : sw_T} {N : Int} (I : wb_iv T 1 N) : w75 T 10 = some (.inl (we_W T 1)) := wq_cw (by decide) (by
  have e1 : w43 1 T 10 = (w57 1 T).bind fun v => some v := rfl
  rw [e1, wc_w57 I, Option.bind_some])
theorem wq_sw {T : sw_T} {N w q v : Int} (I : wb_iv T 1 N) (hw : 0 ≤ w ∧ w < T 1 1) (hq : 0 ≤ q ∧ q ≤ 9) (h : w42 1 T w q = some v) : w72 T w q = some (.inl v) := by
  have h1 : 2 ≤ T 1 1 ∧ T 1 1 ≤ 7 := I.2.1.2.1
  unfold w72
  rw [wb_w90y h1 hw, Option.bind_some, wb_eli, wb_r1 ⟨by omega, by omega⟩, Option.bind_some, if_neg (by omega), wb_r2 ⟨by omega, by omega⟩ (by decide), Option.bind_some, if_pos (by omega), h, Option.bind_some]
theorem wq_s_ld {T : sw_T} {N w q : Int} {t : Nat} (I : wb_iv T 1 N) (hw : 0 ≤ w ∧ w < T 1 1) (e : (q = 2 ∧ t = 4) ∨ (q = 5 ∧ t = 7) ∨ (q = 6 ∧ t = 8) ∨ (q = 8 ∧ t = 10)) : w72 T w q = some (.inl (T t w)) := by
  have h1 : 2 ≤ T 1 1 ∧ T 1 1 ≤ 7 := I.2.1.2.1
  have hwy := wb_w25y (b := 1) h1 hw
  have hw7 : 0 ≤ w ∧ w < ((7 : Nat) : Int) := ⟨hw.1, by omega⟩
  refine wq_sw I hw (by omega) ?_
  have e1 : w42 1 T w q = (sw_ld T t 7 w).bind fun v => some v := by
    unfold w42
    rw [hwy]
    rcases e with ⟨rfl, rfl⟩ | ⟨rfl, rfl⟩ | ⟨rfl, rfl⟩ | ⟨rfl, rfl⟩ <;> rfl
  rw [e1, wb_ld hw7, Option.bind_some]
theorem wq_s1 {T : sw_T} {N w : Int} (I : wb_iv T 1 N) (hw : 0 ≤ w ∧ w < T 1 1) : w72 T w 1 = some (.inl (T 12 w)) := by
  have h1 : 2 ≤ T 1 1 ∧ T 1 1 ≤ 7 := I.2.1.2.1
  have hwy := wb_w25y (b := 1) h1 hw
  refine wq_sw I hw (by decide) ?_
  have e1 : w42 1 T w 1 = (w18 1 T w).bind fun v => some v := by
    unfold w42
    rw [hwy]
    rfl
  rw [e1, wb_w18 ⟨hw.1, by omega⟩, Option.bind_some]
theorem wq_s4 {T : sw_T} {N w : Int} (I : wb_iv T 1 N) (hw : 0 ≤ w ∧ w < T 1 1) : w72 T w 4 = some (.inl (T 6 w)) := by
  have h1 : 2 ≤ T 1 1 ∧ T 1 1 ≤ 7 := I.2.1.2.1
  have hwy := wb_w25y (b := 1) h1 hw
  have hw7 : 0 ≤ w ∧ w < ((7 : Nat) : Int) := ⟨hw.1, by omega⟩
  have s5 : T 6 w = 0 ∨ T 6 w = 1 := (I.2.2.1 w ⟨hw.1, by omega⟩).2.2.2.1
  refine wq_sw I hw (by decide) ?_
  have e1 : w42 1 T w 4 = (sw_ld T 6 7 w).bind fun v20 => (sw_r1 v20).bind fun _u => if v20 = 0 then some 0 else some 1 := by
    unfold w42
    rw [hwy]
    rfl
  rw [e1, wb_ld hw7, Option.bind_some, wb_r1 ⟨by omega, by omega⟩, Option.bind_some]
  rcases s5 with g | g
  · rw [g, if_pos rfl]
  · rw [g, if_neg (by decide)]
theorem wq_s9 {T : sw_T} {N w : Int} (I : wb_iv T 1 N) (hw : 0 ≤ w ∧ w < T 1 1) : w72 T w 9 = some (.inl (wc_ld T 1 w)) := by
  have h1 : 2 ≤ T 1 1 ∧ T 1 1 ≤ 7 := I.2.1.2.1
  have hwy := wb_w25y (b := 1) h1 hw
  refine wq_sw I hw (by decide) ?_
  have e1 : w42 1 T w 9 = (w44 1 T w).bind fun v => some v := by
    unfold w42
    rw [hwy]
    rfl
  rw [e1, (wc_w44 I hw).1, Option.bind_some]
theorem wq_p {T : sw_T} {N w p : Int} (I : wb_iv T 1 N) (hw : 0 ≤ w ∧ w < T 1 1) (hp : 0 ≤ p ∧ p < T 12 w) : w73 T w p = some (.inl (wb_pi T 1 w p)) := by
  have h1 : 2 ≤ T 1 1 ∧ T 1 1 ≤ 7 := I.2.1.2.1
  have hw7 : 0 ≤ w ∧ w < 7 := ⟨hw.1, by omega⟩
  have h16 : 0 ≤ T 12 w ∧ T 12 w ≤ 16 := (I.2.2.1 w hw7).2.2.2.2.2.2.2
  have e19 := wb_w19 (b := 1) (T := T) (w := w) (p := p) hw7 ⟨by omega, by omega⟩ h16
  rw [if_pos hp] at e19
  unfold w73
  rw [wb_w90y h1 hw, Option.bind_some, wb_eli, wb_r1 ⟨by omega, by omega⟩, Option.bind_some, if_neg (by omega), e19, Option.bind_some]
theorem wq_h {T : sw_T} {N s q v : Int} (I : wb_iv T 1 N) (hs : 0 ≤ s ∧ s < T 21 0) (hq : 0 ≤ q ∧ q < 3) (h : w56 1 T s q = some v) : w74 T s q = some (.inl v) := by
  have hc : 0 ≤ T 21 0 ∧ T 21 0 ≤ 120 := I.2.1.2.2.2.2
  unfold w74
  rw [wb_r1 ⟨by omega, by omega⟩, Option.bind_some, if_neg (by omega), wb_r2 ⟨by omega, by omega⟩ ⟨by omega, by omega⟩, Option.bind_some, if_pos hs.2, wb_r1 ⟨by omega, by omega⟩, Option.bind_some, if_neg (by omega), wb_r2 ⟨by omega, by omega⟩ (by decide), Option.bind_some, if_pos hq.2, h, Option.bind_some]
theorem wq_h3 {T : sw_T} {N s q : Int} {t : Nat} (I : wb_iv T 1 N) (hs : 0 ≤ s ∧ s < T 21 0) (e : (q = 0 ∧ t = 22) ∨ (q = 1 ∧ t = 23) ∨ (q = 2 ∧ t = 24)) : w74 T s q = some (.inl (T t s)) := by
  have hc : 0 ≤ T 21 0 ∧ T 21 0 ≤ 120 := I.2.1.2.2.2.2
  have hs' : 0 ≤ s ∧ s < ((120 : Nat) : Int) := ⟨hs.1, by omega⟩
  have hsy := wb_w51y (b := 1) hc hs
  refine wq_h I hs (by omega) ?_
  have e1 : w56 1 T s q = (sw_ld T t 120 s).bind fun v => some v := by
    unfold w56
    rw [hsy]
    rcases e with ⟨rfl, rfl⟩ | ⟨rfl, rfl⟩ | ⟨rfl, rfl⟩ <;> rfl
  rw [e1, wb_ld hs', Option.bind_some]
theorem wq_g {T : sw_T} {k : Int} (hk : 0 ≤ k ∧ k < 3) : w76 T k = some (.inl (T 2 k)) := by
  unfold w76
  rw [wb_w92y hk, Option.bind_some, wb_eli, wb_ld ⟨hk.1, by omega⟩, Option.bind_some]
theorem wq_ch {T : sw_T} {N w : Int} (I : wb_iv T 1 N) (hw : 0 ≤ w ∧ w < T 1 1) : w77 T w = some (.inl (wb_cho T 1 w)) ∧ (wb_cho T 1 w = -1 ∨ ((0 ≤ wb_cho T 1 w ∧ wb_cho T 1 w < T 1 1) ∧ 1 ≤ T 12 (wb_cho T 1 w) ∧ wb_cho T 1 w ≠ w)) := by
  have h1 : 2 ≤ T 1 1 ∧ T 1 1 ≤ 7 := I.2.1.2.1
  obtain ⟨g1, -, g3⟩ := wb_cho_ok (Tm := wq_TM (wb_en T 1)) I (fun j _ => rfl) hw
  constructor
  · unfold w77
    rw [wb_w90y h1 hw, Option.bind_some, wb_eli, g1, Option.bind_some]
  · rcases g3 with g | ⟨g, g4, g5⟩
    · exact .inl g
    · refine .inr ⟨g, ?_, g5⟩
      have g4 : 2 ≤ T 12 (wb_cho T 1 w) ∨ (T 12 (wb_cho T 1 w) = 1 ∧ (T (1 + 5) (wb_cho T 1 w) ≠ 0 ∨ T (1 + 3) (wb_cho T 1 w) ≠ -1)) := g4
      omega
/-! the hash -/
def wq_fo (F : Int → Int → Int) : Nat → Int → Int
  | 0, h => h
  | k + 1, h => F k (wq_fo F k h)
theorem wq_lp {f : Nat → Int → Int → Option Int} {F : Int → Int → Int} {n : Nat} {h0 : Int} (hs : ∀ (m : Nat) (h : Int) (l : Nat), l < n → f (m + 1) h l = f m (F l h) ((l : Int) + 1)) (he : ∀ (m : Nat) (h : Int), f (m + 1) h n = some h) : ∀ k l : Nat, l + k = n → ∀ m, k < m → f m (wq_fo F l h0) l = some (wq_fo F n h0) := by
  intro k
  induction k with
  | zero =>
    intro l hl m hm
    obtain ⟨m, rfl⟩ : ∃ q, m = q + 1 := ⟨m - 1, by omega⟩
    obtain rfl : l = n := by omega
    exact he m _
  | succ k ih =>
    intro l hl m hm
    obtain ⟨m, rfl⟩ : ∃ q, m = q + 1 := ⟨m - 1, by omega⟩
    rw [hs m _ l (by omega)]
    exact ih (l + 1) (by omega) m (by omega)
def wq_fc (M : Int → Int) (q : Int) : Int := (w151 (wq_TM M) q).getD 0
def wq_fs (M : Int → Int) (w q : Int) : Int := (w147 (wq_TM M) w q).getD 0
def wq_t1 (M : Int → Int) : Int := wq_fo (fun q h => 31 * h + wq_fc M q) 11 3
def wq_tw (M : Int → Int) (w h : Int) : Int := wq_fo (fun p h => 31 * h + M (71 + 16 * w + p)) (M (8 + 9 * w + 8)).toNat (wq_fo (fun q h => 31 * h + wq_fs M w q) 10 h)
def wq_t2 (M : Int → Int) : Int := wq_fo (wq_tw M) (M 4).toNat (wq_t1 M)
def wq_t3 (M : Int → Int) : Int := wq_fo (fun s h => wq_fo (fun q h => 31 * h + M (183 + 3 * s + q)) 3 h) (M 5).toNat (wq_t2 M)
def wq_told (M : Int → Int) : Int := 31 * (31 * (31 * wq_t3 M + M 0) + M 1) + M 2
theorem wq_told_ok {T : sw_T} {N : Int} {M : Int → Int} (I : wb_iv T 1 N) (R : wb_rp T 1 M) (hN : N ≤ 100000000) : w202 T = some (wq_told M) := by
  have R' : wb_rp T 1 (wq_TM M 222) := R
  have h1 : 2 ≤ T 1 1 ∧ T 1 1 ≤ 7 := I.2.1.2.1
  have hc : 0 ≤ T 21 0 ∧ T 21 0 ≤ 120 := I.2.1.2.2.2.2
  obtain ⟨-, m4, m5, -, -⟩ := wb_rd_sc R h1.1
  have m5 : M 5 = T 21 0 := m5
  have k1 : w202_6 T sw_N 3 0 = some (wq_t1 M) := by
    refine wq_lp (f := w202_6 T) (F := fun q h => 31 * h + wq_fc M q) (n := 11) (h0 := 3) (fun m h l hl => ?_) (fun m h => ?_) 11 0 rfl sw_N (by decide)
    · obtain ⟨v, g1, g2, g3⟩ := wb_cnt I R' (q := l) ⟨by omega, by omega⟩ hN
      have e : wq_fc M l = v := by unfold wq_fc; rw [g2]; rfl
      rw [w202_6, wb_r2 ⟨by omega, by omega⟩ (by decide), Option.bind_some, if_pos (by omega), wq_cw ⟨by omega, by omega⟩ g1, Option.bind_some, wb_eli, wb_r1 g3, Option.bind_some, e]
    · rw [w202_6, wb_r2 (by decide) (by decide), Option.bind_some, if_neg (by decide)]
  have k45 : ∀ w : Int, 0 ≤ w ∧ w < T 1 1 → ∀ h, w202_45 T w sw_N h 0 = some (wq_fo (fun q h => 31 * h + wq_fs M w q) 10 h) := fun w hw h0 => by
    refine wq_lp (f := w202_45 T w) (F := fun q h => 31 * h + wq_fs M w q) (n := 10) (h0 := h0) (fun m h l hl => ?_) (fun m h => ?_) 10 0 rfl sw_N (by decide)
    · obtain ⟨v, g1, g2, g3⟩ := wb_tells I R' hw (q := l) ⟨by omega, by omega⟩ hN
      have e : wq_fs M w l = v := by unfold wq_fs; rw [g2]; rfl
      rw [w202_45, wb_r2 ⟨by omega, by omega⟩ (by decide), Option.bind_some, if_pos (by omega), wq_sw I hw ⟨by omega, by omega⟩ g1, Option.bind_some, wb_eli, wb_r1 g3, Option.bind_some, e]
    · rw [w202_45, wb_r2 (by decide) (by decide), Option.bind_some, if_neg (by decide)]
  have k76 : ∀ w : Int, 0 ≤ w ∧ w < T 1 1 → ∀ h, w202_76 T w sw_N h 0 = some (wq_fo (fun p h => 31 * h + M (71 + 16 * w + p)) (M (8 + 9 * w + 8)).toNat h) := fun w hw h0 => by
    have hw7 : 0 ≤ w ∧ w < 7 := ⟨hw.1, by omega⟩
    have h16 : 0 ≤ T 12 w ∧ T 12 w ≤ 16 := (I.2.2.1 w hw7).2.2.2.2.2.2.2
    have mh : M (8 + 9 * w + 8) = T 12 w := wb_rd_hgt R h1.2 hw
    rw [mh]
    refine wq_lp (f := w202_76 T w) (F := fun p h => 31 * h + M (71 + 16 * w + p)) (n := (T 12 w).toNat) (h0 := h0) (fun m h l hl => ?_) (fun m h => ?_) (T 12 w).toNat 0 (by omega) sw_N (by unfold sw_N; omega)
    · have mp : M (71 + 16 * w + l) = wb_pi T 1 w l := wb_rd_pile R h1.2 hw (p := l) ⟨by omega, by show (l : Int) < T 12 w; omega⟩ h16.2
      have hs := (I.2.2.2.2.1 w l hw7 ⟨by omega, by show (l : Int) < T 12 w; omega⟩).1
      have hs : 0 ≤ wb_pi T 1 w l ∧ wb_pi T 1 w l < T 21 0 := hs
      rw [w202_76, wq_s1 I hw, Option.bind_some, wb_eli, wb_r2 ⟨by omega, by omega⟩ ⟨by omega, by omega⟩, Option.bind_some, if_pos (by omega), wq_p I hw ⟨by omega, by omega⟩, Option.bind_some, wb_eli, wb_r1 ⟨by omega, by omega⟩, Option.bind_some, mp]
    · rw [w202_76, wq_s1 I hw, Option.bind_some, wb_eli, wb_r2 ⟨by omega, by omega⟩ ⟨by omega, by omega⟩, Option.bind_some, if_neg (by omega)]
  have k33 : ∀ h, w202_33 T sw_N h 0 = some (wq_fo (wq_tw M) (M 4).toNat h) := fun h0 => by
    rw [m4]
    refine wq_lp (f := w202_33 T) (F := wq_tw M) (n := (T 1 1).toNat) (h0 := h0) (fun m h l hl => ?_) (fun m h => ?_) (T 1 1).toNat 0 (by omega) sw_N (by unfold sw_N; omega)
    · rw [w202_33, wq_c1, Option.bind_some, wb_eli, wb_r2 ⟨by omega, by omega⟩ ⟨by omega, by omega⟩, Option.bind_some, if_pos (by omega), k45 l ⟨by omega, by omega⟩, Option.bind_some, k76 l ⟨by omega, by omega⟩, Option.bind_some]
      rfl
    · rw [w202_33, wq_c1, Option.bind_some, wb_eli, wb_r2 ⟨by omega, by omega⟩ ⟨by omega, by omega⟩, Option.bind_some, if_neg (by omega)]
  have k128 : ∀ s : Int, 0 ≤ s ∧ s < T 21 0 → ∀ h, w202_128 T s sw_N h 0 = some (wq_fo (fun q h => 31 * h + M (183 + 3 * s + q)) 3 h) := fun s hs h0 => by
    refine wq_lp (f := w202_128 T s) (F := fun q h => 31 * h + M (183 + 3 * s + q)) (n := 3) (h0 := h0) (fun m h l hl => ?_) (fun m h => ?_) 3 0 rfl sw_N (by decide)
    · obtain ⟨v, g1, g2, g3⟩ := wb_sh3 I R' hs (q := l) ⟨by omega, by omega⟩
      have g2 : M (183 + 3 * s + l) = v := g2
      rw [w202_128, wb_r2 ⟨by omega, by omega⟩ (by decide), Option.bind_some, if_pos (by omega), wq_h I hs ⟨by omega, by omega⟩ g1, Option.bind_some, wb_eli, wb_r1 g3, Option.bind_some, g2]
    · rw [w202_128, wb_r2 (by decide) (by decide), Option.bind_some, if_neg (by decide)]
  have k116 : ∀ h, w202_116 T sw_N h 0 = some (wq_fo (fun s h => wq_fo (fun q h => 31 * h + M (183 + 3 * s + q)) 3 h) (M 5).toNat h) := fun h0 => by
    rw [m5]
    refine wq_lp (f := w202_116 T) (F := fun s h => wq_fo (fun q h => 31 * h + M (183 + 3 * s + q)) 3 h) (n := (T 21 0).toNat) (h0 := h0) (fun m h l hl => ?_) (fun m h => ?_) (T 21 0).toNat 0 (by omega) sw_N (by unfold sw_N; omega)
    · rw [w202_116, wq_c2, Option.bind_some, wb_eli, wb_r2 ⟨by omega, by omega⟩ ⟨by omega, by omega⟩, Option.bind_some, if_pos (by omega), k128 l ⟨by omega, by omega⟩, Option.bind_some]
    · rw [w202_116, wq_c2, Option.bind_some, wb_eli, wb_r2 ⟨by omega, by omega⟩ ⟨by omega, by omega⟩, Option.bind_some, if_neg (by omega)]
  have hi : (2 ≤ T 2 0 ∧ T 2 0 ≤ 99) ∧ (0 ≤ T 2 1 ∧ T 2 1 ≤ 2) ∧ (1 ≤ T 2 2 ∧ T 2 2 ≤ 20) := I.1
  have s0 : M 0 = T 2 0 := wb_rd_set R h1.1 (by decide)
  have s1 : M 1 = T 2 1 := wb_rd_set R h1.1 (by decide)
  have s2 : M 2 = T 2 2 := wb_rd_set R h1.1 (by decide)
  unfold w202
  rw [k1, Option.bind_some, k33, Option.bind_some, k116, Option.bind_some, wq_g (by decide), Option.bind_some, wb_eli, wb_r1 ⟨by omega, by omega⟩, Option.bind_some, wq_g (by decide), Option.bind_some, wb_eli, wb_r1 ⟨by omega, by omega⟩, Option.bind_some, wq_g (by decide), Option.bind_some, wb_eli, wb_r1 ⟨by omega, by omega⟩, Option.bind_some]
  unfold wq_told
  rw [s0, s1, s2]
  rfl
