/-! ===== share and evenness ===== -/
theorem wf_i64 {x : UInt64} (h : x.toNat < 9223372036854775808) : x.toInt64.toInt = x.toNat := by
  show x.toBitVec.toInt = _
  rw [BitVec.toInt_eq_toNat_of_lt (by show 2 * x.toNat < 18446744073709551616; omega)]
  rfl
theorem wf_i32 {x : UInt32} (h : x.toNat < 2147483648) : x.toInt32.toInt = x.toNat := by
  show x.toBitVec.toInt = _
  rw [BitVec.toInt_eq_toNat_of_lt (by show 2 * x.toNat < 4294967296; omega)]
  rfl
theorem wf_d_sn {t : Nat} (ht : t < 4503599627370496) : FP.Core.val64 (FP.dsub (wf_d 1023 t) (sp_dc 1)) ≠ .nan := by
  show FP.Core.val64 (FP.Core.dsub (wf_d 1023 t) (sp_dc 1)) ≠ .nan
  rw [FP.Core.val64_dsub, wf_d_val (by decide) ht, wf_d_1]
  exact FP.Core.roundRatio_ne_nan _ _ _ _ _
theorem wf_f_sn {t : Nat} (ht : t < 8388608) : FP.Core.val32 (FP.fsub (wf_f 127 t) (sp_fc 1)) ≠ .nan := by
  show FP.Core.val32 (FP.Core.fsub (wf_f 127 t) (sp_fc 1)) ≠ .nan
  rw [FP.Core.val32_fsub, wf_f_val (by decide) ht, wf_f_1]
  exact FP.Core.roundRatio_ne_nan _ _ _ _ _
theorem wf_w88 {T : sw_T} {E t : Nat} (hE : 2 ≤ E ∧ E ≤ 1023) (ht : t < 4503599627370496) : w88 T (wf_d E t) = some ((E : Int) * 4503599627370496 + t) := by
  have hc : (Op.cmpValue (FP.dcmp (wf_d E t) (sp_dc 0)) .l).toInt = 1 := by
    rw [wf_d_cmp (wf_d_nn ⟨by omega, hE.2⟩ ht) wf_d_n0, wf_d_key hE.2 ht, wf_d_k0, if_neg (by omega), if_neg (by omega)]
  have h15 := wf_w88_15 (T := T) ht (1023 - E) E 1023 (by omega) (by omega) (by omega) (by decide) sw_N (by unfold sw_N; omega)
  obtain ⟨f1, f2⟩ := wf_d_fr ht
  unfold w88
  rw [hc, wb_r1 (by decide), Option.bind_some, if_pos (by decide), h15, Option.bind_some]
  show w88_39 T (wf_d 1023 t) (1023 - ((1023 - E : Nat) : Int)) = _
  unfold w88_39
  rw [wf_k64 (wf_d_sn ht), Option.bind_some, wf_k64 f1, Option.bind_some, wb_r1 ⟨by omega, by omega⟩, Option.bind_some, f2, show (1023 : Int) - ((1023 - E : Nat) : Int) = E by omega]
theorem wf_w88_0 {T : sw_T} : w88 T (sp_dc 0) = some 0 := by
  have hc : (Op.cmpValue (FP.dcmp (sp_dc 0) (sp_dc 0)) .l).toInt = 0 := by
    rw [wf_d_cmp wf_d_n0 wf_d_n0, if_neg (by omega), if_pos rfl]
  unfold w88
  rw [hc, wb_r1 (by decide), Option.bind_some, if_neg (by decide)]
theorem wf_w89 {T : sw_T} {E t : Nat} (hE : 2 ≤ E ∧ E ≤ 127) (ht : t < 8388608) : w89 T (wf_f E t) = some ((E : Int) * 8388608 + t) := by
  have hc : (Op.cmpValue (FP.fcmp (wf_f E t) (sp_fc 0)) .l).toInt = 1 := by
    rw [wf_f_cmp (wf_f_nn ⟨by omega, hE.2⟩ ht) wf_f_n0, wf_f_key hE.2 ht, wf_f_k0, if_neg (by omega), if_neg (by omega)]
  have h15 := wf_w89_13 (T := T) ht (127 - E) E 127 (by omega) (by omega) (by omega) (by decide) sw_N (by unfold sw_N; omega)
  obtain ⟨f1, f2⟩ := wf_f_fr ht
  unfold w89
  rw [hc, wb_r1 (by decide), Option.bind_some, if_pos (by decide), h15, Option.bind_some]
  show ((sw_k32 (FP.fsub (wf_f 127 t) (sp_fc 1))).bind fun _u => (sw_k32 (FP.fmul (FP.fsub (wf_f 127 t) (sp_fc 1)) 1258291200)).bind fun _u => some (((127 - ((127 - E : Nat) : Int)) * 8388608) + ((FP.f2i (FP.fmul (FP.fsub (wf_f 127 t) (sp_fc 1)) 1258291200)).toInt))) = _
  rw [wf_k32 (wf_f_sn ht), Option.bind_some, wf_k32 f1, Option.bind_some, f2, show (127 : Int) - ((127 - E : Nat) : Int) = E by omega]
theorem wf_w89_0 {T : sw_T} : w89 T (sp_fc 0) = some 0 := by
  have hc : (Op.cmpValue (FP.fcmp (sp_fc 0) (sp_fc 0)) .l).toInt = 0 := by
    rw [wf_f_cmp wf_f_n0 wf_f_n0, if_neg (by omega), if_pos rfl]
  unfold w89
  rw [hc, wb_r1 (by decide), Option.bind_some, if_neg (by decide)]
theorem wf_lb {x y j P a b : Nat} (h : x * y * 2 ^ j = P) (hb : b ≤ 2 ^ j) (ha : 1 ≤ a) : x * y * b ≤ a * P := by
  calc x * y * b ≤ x * y * 2 ^ j := Nat.mul_le_mul_left _ hb
    _ = 1 * P := by rw [h, Nat.one_mul]
    _ ≤ a * P := Nat.mul_le_mul_right _ ha
theorem wf_p1 : FP.Core.b64.tails * 2 ^ (1023 - 1) = 2 ^ (0 - FP.Core.b64.qmin).toNat := by
  rw [FP.Core.tails_b64, FP.Core.qmin_b64, ← Nat.pow_add]
  rfl
theorem wf_p2 : FP.Core.b64.tails * 2 ^ (1000 - 1) * 2 ^ 23 = 2 ^ (0 - FP.Core.b64.qmin).toNat := by
  rw [FP.Core.tails_b64, FP.Core.qmin_b64, ← Nat.pow_add, ← Nat.pow_add]
  rfl
theorem wf_p3 : FP.Core.b32.tails * 2 ^ (127 - 1) = 2 ^ (0 - FP.Core.b32.qmin).toNat := by
  rw [FP.Core.tails_b32, FP.Core.qmin_b32, ← Nat.pow_add]
  rfl
theorem wf_p4 : FP.Core.b32.tails * 2 ^ (100 - 1) * 2 ^ 27 = 2 ^ (0 - FP.Core.b32.qmin).toNat := by
  rw [FP.Core.tails_b32, FP.Core.qmin_b32, ← Nat.pow_add, ← Nat.pow_add]
  rfl
theorem wf_share {a b : Int} (h : 0 ≤ a ∧ a ≤ b) (hb : 0 < b ∧ b ≤ 8000000) : FP.ddiv (FP.i2d (Int32.ofInt a)) (FP.i2d (Int32.ofInt b)) = sp_dc 0 ∨ ∃ E t, FP.ddiv (FP.i2d (Int32.ofInt a)) (FP.i2d (Int32.ofInt b)) = wf_d E t ∧ (2 ≤ E ∧ E ≤ 1023) ∧ t < 4503599627370496 := by
  have hv : FP.Core.val64 (FP.Core.ddiv (FP.Core.i2d (Int32.ofInt a)) (FP.Core.i2d (Int32.ofInt b))) = FP.Core.roundRatio FP.Core.b64 false a.toNat b.toNat 0 := by
    rw [FP.Core.val64_ddiv, FP.Core.val64_i2d, FP.Core.val64_i2d, wf_of ⟨h.1, by omega⟩, wf_of ⟨by omega, by omega⟩]
    exact wf_quo FP.Core.good_b64 (by show a.toNat < 9007199254740992; omega) ⟨by omega, by show b.toNat < 9007199254740992; omega⟩ (by decide)
  show FP.Core.ddiv (FP.Core.i2d (Int32.ofInt a)) (FP.Core.i2d (Int32.ofInt b)) = sp_dc 0 ∨ ∃ E t, FP.Core.ddiv (FP.Core.i2d (Int32.ofInt a)) (FP.Core.i2d (Int32.ofInt b)) = wf_d E t ∧ (2 ≤ E ∧ E ≤ 1023) ∧ t < 4503599627370496
  generalize FP.Core.ddiv (FP.Core.i2d (Int32.ofInt a)) (FP.Core.i2d (Int32.ofInt b)) = x at hv ⊢
  by_cases ha : a = 0
  · left
    rw [ha] at hv
    have h0 : FP.Core.val64 x = .fin false 0 FP.Core.b64.qmin := by rw [hv]; exact wf_zero
    exact FP.Core.val64_inj (by rw [h0]; exact fun h => nomatch h) (by rw [h0]; exact FP.Core.val64_dconst0.symm)
  · right
    obtain ⟨g1, g2⟩ := wf_rng FP.Core.good_b64 (n := x.toNat) (K := 1023) (L := 1000) hv (FP.Core.lt_full64 x) (by decide) (by omega) (by omega) ⟨by decide, wf_p1⟩ ⟨by decide, by decide⟩ (wf_lb wf_p2 (by show b.toNat ≤ 8388608; omega) (by omega))
    rw [wf_t64] at g1 g2
    refine ⟨x.toNat / 4503599627370496, x.toNat % 4503599627370496, ?_, ⟨by omega, by omega⟩, by omega⟩
    unfold wf_d
    rw [show x.toNat / 4503599627370496 * 4503599627370496 + x.toNat % 4503599627370496 = x.toNat by omega, UInt64.ofNat_toNat]
theorem wf_even {a b : Int} (h : 0 ≤ a ∧ a ≤ b) (hb : 0 < b ∧ b ≤ 8000000) : FP.fdiv (FP.i2f (Int32.ofInt a)) (FP.i2f (Int32.ofInt b)) = sp_fc 0 ∨ ∃ E t, FP.fdiv (FP.i2f (Int32.ofInt a)) (FP.i2f (Int32.ofInt b)) = wf_f E t ∧ (2 ≤ E ∧ E ≤ 127) ∧ t < 8388608 := by
  have hv : FP.Core.val32 (FP.Core.fdiv (FP.Core.i2f (Int32.ofInt a)) (FP.Core.i2f (Int32.ofInt b))) = FP.Core.roundRatio FP.Core.b32 false a.toNat b.toNat 0 := by
    rw [FP.Core.val32_fdiv, FP.Core.val32_i2f, FP.Core.val32_i2f, wf_of ⟨h.1, by omega⟩, wf_of ⟨by omega, by omega⟩]
    exact wf_quo FP.Core.good_b32 (by show a.toNat < 16777216; omega) ⟨by omega, by show b.toNat < 16777216; omega⟩ (by decide)
  show FP.Core.fdiv (FP.Core.i2f (Int32.ofInt a)) (FP.Core.i2f (Int32.ofInt b)) = sp_fc 0 ∨ ∃ E t, FP.Core.fdiv (FP.Core.i2f (Int32.ofInt a)) (FP.Core.i2f (Int32.ofInt b)) = wf_f E t ∧ (2 ≤ E ∧ E ≤ 127) ∧ t < 8388608
  generalize FP.Core.fdiv (FP.Core.i2f (Int32.ofInt a)) (FP.Core.i2f (Int32.ofInt b)) = x at hv ⊢
  by_cases ha : a = 0
  · left
    rw [ha] at hv
    have h0 : FP.Core.val32 x = .fin false 0 FP.Core.b32.qmin := by rw [hv]; exact wf_zero
    exact FP.Core.val32_inj (by rw [h0]; exact fun h => nomatch h) (by rw [h0]; exact FP.Core.val32_fconst0.symm)
  · right
    obtain ⟨g1, g2⟩ := wf_rng FP.Core.good_b32 (n := x.toNat) (K := 127) (L := 100) hv (FP.Core.lt_full32 x) (by decide) (by omega) (by omega) ⟨by decide, wf_p3⟩ ⟨by decide, by decide⟩ (wf_lb wf_p4 (by show b.toNat ≤ 134217728; omega) (by omega))
    rw [wf_t32] at g1 g2
    refine ⟨x.toNat / 8388608, x.toNat % 8388608, ?_, ⟨by omega, by omega⟩, by omega⟩
    unfold wf_f
    rw [show x.toNat / 8388608 * 8388608 + x.toNat % 8388608 = x.toNat by omega, UInt32.ofNat_toNat]
/-- what is known of a share -/
def wf_ds (x : UInt64) : Prop := FP.Core.val64 x ≠ .nan ∧ ∃ z, (∀ T, w88 T x = some z) ∧ x.toInt64.toInt = z
def wf_fs (x : UInt32) : Prop := FP.Core.val32 x ≠ .nan ∧ ∃ z, (∀ T, w89 T x = some z) ∧ x.toInt32.toInt = z ∧ wb_rg z
theorem wf_ds_0 : wf_ds (sp_dc 0) := ⟨wf_d_n0, 0, fun T => wf_w88_0, by decide +kernel⟩
theorem wf_ds_d {E t : Nat} (hE : 2 ≤ E ∧ E ≤ 1023) (ht : t < 4503599627370496) : wf_ds (wf_d E t) := by
  refine ⟨wf_d_nn ⟨by omega, hE.2⟩ ht, _, fun T => wf_w88 hE ht, ?_⟩
  have hn := wf_d_nat hE.2 ht
  rw [wf_i64 (by rw [hn]; omega), hn]
  omega
theorem wf_fs_0 : wf_fs (sp_fc 0) := ⟨wf_f_n0, 0, fun T => wf_w89_0, by decide +kernel, wb_rgd (by decide)⟩
theorem wf_fs_f {E t : Nat} (hE : 2 ≤ E ∧ E ≤ 127) (ht : t < 8388608) : wf_fs (wf_f E t) := by
  refine ⟨wf_f_nn ⟨by omega, hE.2⟩ ht, _, fun T => wf_w89 hE ht, ?_, wb_rgd (by omega)⟩
  have hn := wf_f_nat hE.2 ht
  rw [wf_i32 (by rw [hn]; omega), hn]
  omega
theorem wf_f1 : sp_fc 1 = wf_f 127 0 := by decide
theorem wb_share {T Tm : sw_T} {N : Int} (h : wb_R T Tm N) : ∃ x, w82 T = some x ∧ w162 Tm = some x ∧ wf_ds x := by
  have I := h.1.1.1
  have R := h.1.2
  have h1 : 2 ≤ T 1 1 ∧ T 1 1 ≤ 7 := I.2.1.2.1
  have m7 : Tm 222 7 = T 1 2 := (wb_rd_sc R h1.1).2.2.2.2
  have ht := wb_s7_took I
  have h48 : w48 1 8 T = some (wb_s7 (T (1 + 7))) := wb_w48 h1 (wb_z I 7 (by decide))
  have h121 : w121 Tm 5 = some (wb_s7 (T (1 + 7))) := wb_w121_ok I R 7 (by decide) (wb_z I 7 (by decide))
  unfold w82 w162
  rw [wb_r1 (a := T 1 2) ⟨by omega, by omega⟩, Option.bind_some, wb_ld (by decide), Option.bind_some, m7, wb_r1 (a := T 1 2) ⟨by omega, by omega⟩, Option.bind_some]
  by_cases h0 : T 1 2 = 0
  · rw [if_pos h0, if_pos h0]
    exact ⟨_, rfl, rfl, wf_ds_0⟩
  · rw [if_neg h0, if_neg h0, h48, Option.bind_some, h121, Option.bind_some, Option.bind_some]
    have hs : wf_ds (FP.ddiv (FP.i2d (Int32.ofInt (wb_s7 (T (1 + 7))))) (FP.i2d (Int32.ofInt (T 1 2)))) := by
      rcases wf_share (a := wb_s7 (T (1 + 7))) (b := T 1 2) ht.1 ⟨by omega, by omega⟩ with e | ⟨E, t, e, hE, h3⟩
      · rw [e]
        exact wf_ds_0
      · rw [e]
        exact wf_ds_d hE h3
    rw [wf_k64 hs.1, Option.bind_some]
    exact ⟨_, rfl, rfl, hs⟩
theorem wb_even_2 {T Tm : sw_T} {b : Nat} {N : Int} (hb : b = 1) (I : wb_iv T b N) (R : wb_rp T b (Tm 222)) : ∀ (k : Nat) (l1 l2 l : Int), (0 ≤ l1 ∧ l1 ≤ l2 ∧ l2 ≤ 1683) → 0 ≤ l → T b 1 - l ≤ k → l ≤ 7 → ∀ m1 m2, k < m1 → k < m2 → ∃ u v, w83_13 T m1 l1 l2 l = some (u, v) ∧ w164_14 Tm m2 l1 l2 l = some (u, v) ∧ (0 ≤ u ∧ u ≤ v ∧ v ≤ 1683) := by
  subst hb
  have h1 : 2 ≤ T 1 1 ∧ T 1 1 ≤ 7 := I.2.1.2.1
  have m4 : Tm 222 4 = T 1 1 := (wb_rd_sc R h1.1).2.1
  intro k
  induction k with
  | zero =>
    intro l1 l2 l hb hl hk h7 m1 m2 g1 g2
    obtain ⟨m1, rfl⟩ : ∃ q, m1 = q + 1 := ⟨m1 - 1, by omega⟩
    obtain ⟨m2, rfl⟩ : ∃ q, m2 = q + 1 := ⟨m2 - 1, by omega⟩
    refine ⟨l1, l2, ?_, ?_, hb⟩
    · rw [w83_13, wb_r2 ⟨by omega, by omega⟩ ⟨by omega, by omega⟩, Option.bind_some, if_neg (by omega)]
    · rw [w164_14, wb_ld (by decide), Option.bind_some, m4, wb_r2 ⟨by omega, by omega⟩ ⟨by omega, by omega⟩, Option.bind_some, if_neg (by omega)]
  | succ k ih =>
    intro l1 l2 l hb hl hk h7 m1 m2 g1 g2
    obtain ⟨m1, rfl⟩ : ∃ q, m1 = q + 1 := ⟨m1 - 1, by omega⟩
    obtain ⟨m2, rfl⟩ : ∃ q, m2 = q + 1 := ⟨m2 - 1, by omega⟩
    by_cases h3 : l < T 1 1
    · obtain ⟨r, e1, e2, e3, e4⟩ := wb_load I R ⟨hl, h3⟩
      have ec : w83_13 T (m1 + 1) l1 l2 l = w83_13 T m1 (if r < l1 then r else l1) (if l2 < r then r else l2) (l + 1) := by
        rw [w83_13, wb_r2 ⟨by omega, by omega⟩ ⟨by omega, by omega⟩, Option.bind_some, if_pos h3, e1, Option.bind_some, wb_r2 (b := l1) ⟨by omega, by omega⟩ ⟨by omega, by omega⟩, Option.bind_some]
        by_cases c1 : r < l1
        · rw [if_pos c1, if_pos c1, wb_r2 ⟨by omega, by omega⟩ ⟨by omega, by omega⟩, Option.bind_some]
          by_cases c2 : l2 < r
          · rw [if_pos c2, if_pos c2]
          · rw [if_neg c2, if_neg c2]
        · rw [if_neg c1, if_neg c1, wb_r2 ⟨by omega, by omega⟩ ⟨by omega, by omega⟩, Option.bind_some]
          by_cases c2 : l2 < r
          · rw [if_pos c2, if_pos c2]
          · rw [if_neg c2, if_neg c2]
      have em : w164_14 Tm (m2 + 1) l1 l2 l = w164_14 Tm m2 (if r < l1 then r else l1) (if l2 < r then r else l2) (l + 1) := by
        rw [w164_14, wb_ld (by decide), Option.bind_some, m4, wb_r2 ⟨by omega, by omega⟩ ⟨by omega, by omega⟩, Option.bind_some, if_pos h3, e2, Option.bind_some, wb_r2 (b := l1) ⟨by omega, by omega⟩ ⟨by omega, by omega⟩, Option.bind_some]
        by_cases c1 : r < l1
        · rw [if_pos c1, if_pos c1, Option.bind_some, Option.bind_some, wb_r2 ⟨by omega, by omega⟩ ⟨by omega, by omega⟩, Option.bind_some]
          by_cases c2 : l2 < r
          · rw [if_pos c2, if_pos c2, Option.bind_some]
          · rw [if_neg c2, if_neg c2]
        · rw [if_neg c1, if_neg c1, Option.bind_some, wb_r2 ⟨by omega, by omega⟩ ⟨by omega, by omega⟩, Option.bind_some]
          by_cases c2 : l2 < r
          · rw [if_pos c2, if_pos c2, Option.bind_some]
          · rw [if_neg c2, if_neg c2]
      rw [ec, em]
      refine ih _ _ (l + 1) ?_ (by omega) (by omega) (by omega) m1 m2 (by omega) (by omega)
      by_cases c1 : r < l1
      · rw [if_pos c1, if_neg (by omega)]
        omega
      · rw [if_neg c1]
        by_cases c2 : l2 < r
        · rw [if_pos c2]
          omega
        · rw [if_neg c2]
          exact hb
    · refine ⟨l1, l2, ?_, ?_, hb⟩
      · rw [w83_13, wb_r2 ⟨by omega, by omega⟩ ⟨by omega, by omega⟩, Option.bind_some, if_neg (by omega)]
      · rw [w164_14, wb_ld (by decide), Option.bind_some, m4, wb_r2 ⟨by omega, by omega⟩ ⟨by omega, by omega⟩, Option.bind_some, if_neg (by omega)]
theorem wb_even {T Tm : sw_T} {N : Int} (h : wb_R T Tm N) : ∃ x, w83 T = some x ∧ w164 Tm = some x ∧ wf_fs x := by
  have I := h.1.1.1
  have R := h.1.2
  have h1 : 2 ≤ T 1 1 ∧ T 1 1 ≤ 7 := I.2.1.2.1
  obtain ⟨r, e1, e2, e3, e4⟩ := wb_load I R (w := 0) ⟨by decide, by omega⟩
  obtain ⟨u, v, g1, g2, g3⟩ := wb_even_2 rfl I R 7 r r 1 ⟨e3, Int.le_refl _, e4⟩ (by decide) (by omega) (by decide) sw_N sw_N (by decide) (by decide)
  unfold w83 w164
  rw [e1, Option.bind_some, g1, Option.bind_some, e2, Option.bind_some, Option.bind_some, g2, Option.bind_some]
  show ∃ x, ((sw_r1 v).bind fun _u => if v = 0 then some (sp_fc 1) else (sw_k32 (FP.fdiv (FP.i2f (Int32.ofInt u)) (FP.i2f (Int32.ofInt v)))).bind fun _u => some (FP.fdiv (FP.i2f (Int32.ofInt u)) (FP.i2f (Int32.ofInt v)))) = some x ∧ ((sw_r1 v).bind fun _u => if v = 0 then some (sp_fc 1) else (sw_k32 (FP.fdiv (FP.i2f (Int32.ofInt u)) (FP.i2f (Int32.ofInt v)))).bind fun _u => some (FP.fdiv (FP.i2f (Int32.ofInt u)) (FP.i2f (Int32.ofInt v)))) = some x ∧ wf_fs x
  rw [wb_r1 (a := v) ⟨by omega, by omega⟩, Option.bind_some]
  by_cases h0 : v = 0
  · rw [if_pos h0]
    exact ⟨_, rfl, rfl, by rw [wf_f1]; exact wf_fs_f (by decide) (by decide)⟩
  · rw [if_neg h0]
    have hs : wf_fs (FP.fdiv (FP.i2f (Int32.ofInt u)) (FP.i2f (Int32.ofInt v))) := by
      rcases wf_even (a := u) (b := v) ⟨g3.1, g3.2.1⟩ ⟨by omega, by omega⟩ with e | ⟨E, t, e, hE, h3⟩
      · rw [e]
        exact wf_fs_0
      · rw [e]
        exact wf_fs_f hE h3
    rw [wf_k32 hs.1, Option.bind_some]
    exact ⟨_, rfl, rfl, hs⟩
