/-! ===== share and evenness lie between 0 and 1 ===== -/
def wg_d (x : UInt64) : Prop := FP.Core.val64 x ≠ .nan ∧ 0 ≤ FP.Core.dkey x ∧ FP.Core.dkey x ≤ 4607182418800017408
def wg_f (x : UInt32) : Prop := FP.Core.val32 x ≠ .nan ∧ 0 ≤ FP.Core.fkey x ∧ FP.Core.fkey x ≤ 1065353216
theorem wg_d0 : wg_d (sp_dc 0) := ⟨wf_d_n0, by rw [wf_d_k0]; decide, by rw [wf_d_k0]; decide⟩
theorem wg_f0 : wg_f (sp_fc 0) := ⟨wf_f_n0, by rw [wf_f_k0]; decide, by rw [wf_f_k0]; decide⟩
theorem wg_f1 : wg_f (sp_fc 1) := ⟨wf_f_n1, by rw [wf_f_k1]; decide, by rw [wf_f_k1]; decide⟩
theorem wg_share {a b : Int} (h : 0 ≤ a ∧ a ≤ b) (hb : 0 < b ∧ b ≤ 8000000) : wg_d (FP.ddiv (FP.i2d (Int32.ofInt a)) (FP.i2d (Int32.ofInt b))) := by
  have hv : FP.Core.val64 (FP.Core.ddiv (FP.Core.i2d (Int32.ofInt a)) (FP.Core.i2d (Int32.ofInt b))) = FP.Core.roundRatio FP.Core.b64 false a.toNat b.toNat 0 := by
    rw [FP.Core.val64_ddiv, FP.Core.val64_i2d, FP.Core.val64_i2d, wf_of ⟨h.1, by omega⟩, wf_of ⟨by omega, by omega⟩]
    exact wf_quo FP.Core.good_b64 (by show a.toNat < 9007199254740992; omega) ⟨by omega, by show b.toNat < 9007199254740992; omega⟩ (by decide)
  show wg_d (FP.Core.ddiv (FP.Core.i2d (Int32.ofInt a)) (FP.Core.i2d (Int32.ofInt b)))
  generalize FP.Core.ddiv (FP.Core.i2d (Int32.ofInt a)) (FP.Core.i2d (Int32.ofInt b)) = x at hv ⊢
  by_cases ha : a = 0
  · rw [ha] at hv
    have h0 : FP.Core.val64 x = .fin false 0 FP.Core.b64.qmin := by rw [hv]; exact wf_zero
    have e : x = sp_dc 0 := FP.Core.val64_inj (by rw [h0]; exact fun h => nomatch h) (by rw [h0]; exact FP.Core.val64_dconst0.symm)
    rw [e]
    exact wg_d0
  · obtain ⟨g1, g2⟩ := wf_rng FP.Core.good_b64 (n := x.toNat) (K := 1023) (L := 1000) hv (FP.Core.lt_full64 x) (by decide) (by omega) (by omega) ⟨by decide, wf_p1⟩ ⟨by decide, by decide⟩ (wf_lb wf_p2 (by show b.toNat ≤ 8388608; omega) (by omega))
    rw [wf_t64] at g1 g2
    have e : x = wf_d (x.toNat / 4503599627370496) (x.toNat % 4503599627370496) := by
      unfold wf_d
      rw [show x.toNat / 4503599627370496 * 4503599627370496 + x.toNat % 4503599627370496 = x.toNat by omega, UInt64.ofNat_toNat]
    have hE : x.toNat / 4503599627370496 ≤ 1023 := by omega
    have ht : x.toNat % 4503599627370496 < 4503599627370496 := by omega
    have hk := wf_d_key hE ht
    have hn := wf_d_nn (E := x.toNat / 4503599627370496) ⟨by omega, hE⟩ ht
    rw [← e] at hk hn
    exact ⟨hn, by omega, by omega⟩
theorem wg_even {a b : Int} (h : 0 ≤ a ∧ a ≤ b) (hb : 0 < b ∧ b ≤ 8000000) : wg_f (FP.fdiv (FP.i2f (Int32.ofInt a)) (FP.i2f (Int32.ofInt b))) := by
  have hv : FP.Core.val32 (FP.Core.fdiv (FP.Core.i2f (Int32.ofInt a)) (FP.Core.i2f (Int32.ofInt b))) = FP.Core.roundRatio FP.Core.b32 false a.toNat b.toNat 0 := by
    rw [FP.Core.val32_fdiv, FP.Core.val32_i2f, FP.Core.val32_i2f, wf_of ⟨h.1, by omega⟩, wf_of ⟨by omega, by omega⟩]
    exact wf_quo FP.Core.good_b32 (by show a.toNat < 16777216; omega) ⟨by omega, by show b.toNat < 16777216; omega⟩ (by decide)
  show wg_f (FP.Core.fdiv (FP.Core.i2f (Int32.ofInt a)) (FP.Core.i2f (Int32.ofInt b)))
  generalize FP.Core.fdiv (FP.Core.i2f (Int32.ofInt a)) (FP.Core.i2f (Int32.ofInt b)) = x at hv ⊢
  by_cases ha : a = 0
  · rw [ha] at hv
    have h0 : FP.Core.val32 x = .fin false 0 FP.Core.b32.qmin := by rw [hv]; exact wf_zero
    have e : x = sp_fc 0 := FP.Core.val32_inj (by rw [h0]; exact fun h => nomatch h) (by rw [h0]; exact FP.Core.val32_fconst0.symm)
    rw [e]
    exact wg_f0
  · obtain ⟨g1, g2⟩ := wf_rng FP.Core.good_b32 (n := x.toNat) (K := 127) (L := 100) hv (FP.Core.lt_full32 x) (by decide) (by omega) (by omega) ⟨by decide, wf_p3⟩ ⟨by decide, by decide⟩ (wf_lb wf_p4 (by show b.toNat ≤ 134217728; omega) (by omega))
    rw [wf_t32] at g1 g2
    have e : x = wf_f (x.toNat / 8388608) (x.toNat % 8388608) := by
      unfold wf_f
      rw [show x.toNat / 8388608 * 8388608 + x.toNat % 8388608 = x.toNat by omega, UInt32.ofNat_toNat]
    have hE : x.toNat / 8388608 ≤ 127 := by omega
    have ht : x.toNat % 8388608 < 8388608 := by omega
    have hk := wf_f_key hE ht
    have hn := wf_f_nn (E := x.toNat / 8388608) ⟨by omega, hE⟩ ht
    rw [← e] at hk hn
    exact ⟨hn, by omega, by omega⟩
/-- what the law asks of them -/
theorem wg_d_cmp {x : UInt64} (h : wg_d x) : (0 ≤ (Op.cmpValue (FP.dcmp x (sp_dc 0)) .l).toInt ∧ (Op.cmpValue (FP.dcmp x (sp_dc 0)) .l).toInt ≤ 1) ∧ (-1 ≤ (Op.cmpValue (FP.dcmp x (sp_dc 1)) .g).toInt ∧ (Op.cmpValue (FP.dcmp x (sp_dc 1)) .g).toInt ≤ 0) := by
  obtain ⟨h1, h2, h3⟩ := h
  constructor
  · rw [wf_d_cmp h1 wf_d_n0, wf_d_k0, if_neg (by omega)]
    split <;> omega
  · rw [wf_d_cmp h1 wf_d_n1, wf_d_k1]
    split
    · omega
    · rw [if_pos (by omega)]
      omega
theorem wg_f_cmp {x : UInt32} (h : wg_f x) : (0 ≤ (Op.cmpValue (FP.fcmp x (sp_fc 0)) .l).toInt ∧ (Op.cmpValue (FP.fcmp x (sp_fc 0)) .l).toInt ≤ 1) ∧ (-1 ≤ (Op.cmpValue (FP.fcmp x (sp_fc 1)) .g).toInt ∧ (Op.cmpValue (FP.fcmp x (sp_fc 1)) .g).toInt ≤ 0) := by
  obtain ⟨h1, h2, h3⟩ := h
  constructor
  · rw [wf_f_cmp h1 wf_f_n0, wf_f_k0, if_neg (by omega)]
    split <;> omega
  · rw [wf_f_cmp h1 wf_f_n1, wf_f_k1]
    split
    · omega
    · rw [if_pos (by omega)]
      omega
/-- a table that holds a row of the reference alone -/
def wq_TM (M : Int → Int) : sw_T := fun a => if a = 222 then M else fun _ => 0
theorem wq_TM_222 {M : Int → Int} : wq_TM M 222 = M := rfl
theorem wq_TM_9 {M : Int → Int} : wq_TM M 221 9 = 0 := rfl
theorem wq_share {T : sw_T} {N : Int} (I : wb_iv T 1 N) : ∃ x, w82 T = some x ∧ wg_d x := by
  have h1 : 2 ≤ T 1 1 ∧ T 1 1 ≤ 7 := I.2.1.2.1
  have ht := wb_s7_took I
  have h48 : w48 1 8 T = some (wb_s7 (T (1 + 7))) := wb_w48 h1 (wb_z I 7 (by decide))
  unfold w82
  rw [wb_r1 (a := T 1 2) ⟨by omega, by omega⟩, Option.bind_some]
  by_cases h0 : T 1 2 = 0
  · rw [if_pos h0]
    exact ⟨_, rfl, wg_d0⟩
  · rw [if_neg h0, h48, Option.bind_some]
    have hs := wg_share (a := wb_s7 (T (1 + 7))) (b := T 1 2) ht.1 ⟨by omega, by omega⟩
    rw [wf_k64 hs.1, Option.bind_some]
    exact ⟨_, rfl, hs⟩
theorem wq_even {T : sw_T} {N : Int} {M : Int → Int} (I : wb_iv T 1 N) (R : wb_rp T 1 M) : ∃ x, w83 T = some x ∧ wg_f x := by
  have h1 : 2 ≤ T 1 1 ∧ T 1 1 ≤ 7 := I.2.1.2.1
  have R' : wb_rp T 1 (wq_TM M 222) := R
  obtain ⟨r, e1, e2, e3, e4⟩ := wb_load I R' (w := 0) ⟨by decide, by omega⟩
  obtain ⟨u, v, g1, g2, g3⟩ := wb_even_2 rfl I R' 7 r r 1 ⟨e3, Int.le_refl _, e4⟩ (by decide) (by omega) (by decide) sw_N sw_N (by decide) (by decide)
  unfold w83
  rw [e1, Option.bind_some, g1, Option.bind_some]
  show ∃ x, ((sw_r1 v).bind fun _u => if v = 0 then some (sp_fc 1) else (sw_k32 (FP.fdiv (FP.i2f (Int32.ofInt u)) (FP.i2f (Int32.ofInt v)))).bind fun _u => some (FP.fdiv (FP.i2f (Int32.ofInt u)) (FP.i2f (Int32.ofInt v)))) = some x ∧ wg_f x
  rw [wb_r1 (a := v) ⟨by omega, by omega⟩, Option.bind_some]
  by_cases h0 : v = 0
  · rw [if_pos h0]
    exact ⟨_, rfl, wg_f1⟩
  · rw [if_neg h0]
    have hs := wg_even (a := u) (b := v) ⟨g3.1, g3.2.1⟩ ⟨by omega, by omega⟩
    rw [wf_k32 hs.1, Option.bind_some]
    exact ⟨_, rfl, hs⟩
