/-! ===== the bits of a share and of an evenness ===== -/
theorem wf_of {a : Int} (h : 0 ≤ a ∧ a < 2147483648) : FP.Core.ofInt (Int32.ofInt a).toInt = .fin false a.toNat 0 := by
  rw [sw_ri ⟨by omega, by omega⟩]
  unfold FP.Core.ofInt
  rw [decide_eq_false (by omega), show a.natAbs = a.toNat by omega]
theorem wf_k64 {x : UInt64} (h : FP.Core.val64 x ≠ .nan) : sw_k64 x = some () := by
  have h1 := (FP.Core.ne_nan x).mp h
  refine if_pos (decide_eq_true ?_)
  show x &&& 0x7fffffffffffffff ≤ 0x7ff0000000000000
  rw [UInt64.le_iff_toNat_le, FP.Core.mask_toNat]
  exact h1
theorem wf_k32 {x : UInt32} (h : FP.Core.val32 x ≠ .nan) : sw_k32 x = some () := by
  have h1 := (FP.Core.ne_nan32 x).mp h
  refine if_pos (decide_eq_true ?_)
  show x &&& 0x7fffffff ≤ 0x7f800000
  rw [UInt32.le_iff_toNat_le, FP.Core.mask_toNat32]
  exact h1
/-- a double of exponent E and fraction t -/
def wf_d (E t : Nat) : UInt64 := UInt64.ofNat (E * 4503599627370496 + t)
def wf_f (E t : Nat) : UInt32 := UInt32.ofNat (E * 8388608 + t)
theorem wf_d_nat {E t : Nat} (hE : E ≤ 1023) (ht : t < 4503599627370496) : (wf_d E t).toNat = E * 4503599627370496 + t := UInt64.toNat_ofNat_of_lt' (by show _ < 18446744073709551616; omega)
theorem wf_f_nat {E t : Nat} (hE : E ≤ 127) (ht : t < 8388608) : (wf_f E t).toNat = E * 8388608 + t := UInt32.toNat_ofNat_of_lt' (by show _ < 4294967296; omega)
theorem wf_t64 : FP.Core.b64.tails = 4503599627370496 := by decide
theorem wf_t32 : FP.Core.b32.tails = 8388608 := by decide
theorem wf_e64 : FP.Core.b64.exps = 2048 := by decide
theorem wf_e32 : FP.Core.b32.exps = 256 := by decide
theorem wf_d_val {E t : Nat} (hE : 1 ≤ E ∧ E ≤ 1023) (ht : t < 4503599627370496) : FP.Core.val64 (wf_d E t) = .fin false (FP.Core.b64.tails + t) (FP.Core.b64.qmin + ((E : Int) - 1)) := by
  unfold FP.Core.val64
  exact wf_dec (by rw [wf_d_nat hE.2 ht, wf_t64]) ⟨hE.1, by rw [wf_e64]; omega⟩ (by rw [wf_t64]; exact ht)
theorem wf_f_val {E t : Nat} (hE : 1 ≤ E ∧ E ≤ 127) (ht : t < 8388608) : FP.Core.val32 (wf_f E t) = .fin false (FP.Core.b32.tails + t) (FP.Core.b32.qmin + ((E : Int) - 1)) := by
  unfold FP.Core.val32
  exact wf_dec (by rw [wf_f_nat hE.2 ht, wf_t32]) ⟨hE.1, by rw [wf_e32]; omega⟩ (by rw [wf_t32]; exact ht)
theorem wf_d_2 : FP.Core.val64 4611686018427387904 = .fin false FP.Core.b64.tails (2 - (FP.Core.b64.p : Int)) := by decide +kernel
theorem wf_f_2 : FP.Core.val32 (sp_fc 2) = .fin false FP.Core.b32.tails (2 - (FP.Core.b32.p : Int)) := by decide +kernel
theorem wf_d_1 : FP.Core.val64 (sp_dc 1) = .fin false FP.Core.b64.tails (1 - (FP.Core.b64.p : Int)) := by decide +kernel
theorem wf_f_1 : FP.Core.val32 (sp_fc 1) = .fin false FP.Core.b32.tails (1 - (FP.Core.b32.p : Int)) := by decide +kernel
theorem wf_d_m : FP.Core.val64 4841369599423283200 = .fin false FP.Core.b64.tails 0 := by decide +kernel
theorem wf_f_m : FP.Core.val32 1258291200 = .fin false FP.Core.b32.tails 0 := by decide +kernel
theorem wf_d_up {E t : Nat} (hE : 1 ≤ E ∧ E < 1023) (ht : t < 4503599627370496) : FP.dmul (wf_d E t) 4611686018427387904 = wf_d (E + 1) t := by
  have h : FP.Core.val64 (FP.Core.dmul (wf_d E t) 4611686018427387904) = .fin false (FP.Core.b64.tails + t) (FP.Core.b64.qmin + (((E + 1 : Nat) : Int) - 1)) := by
    rw [FP.Core.val64_dmul, wf_d_val ⟨hE.1, by omega⟩ ht, wf_d_2]
    exact wf_two FP.Core.good_b64 ⟨hE.1, by rw [wf_e64]; omega⟩ (by rw [wf_t64]; exact ht)
  exact FP.Core.val64_inj (by rw [h]; exact fun h => nomatch h) (by rw [h, wf_d_val ⟨by omega, by omega⟩ ht])
theorem wf_f_up {E t : Nat} (hE : 1 ≤ E ∧ E < 127) (ht : t < 8388608) : FP.fmul (wf_f E t) (sp_fc 2) = wf_f (E + 1) t := by
  have h : FP.Core.val32 (FP.Core.fmul (wf_f E t) (sp_fc 2)) = .fin false (FP.Core.b32.tails + t) (FP.Core.b32.qmin + (((E + 1 : Nat) : Int) - 1)) := by
    rw [FP.Core.val32_fmul, wf_f_val ⟨hE.1, by omega⟩ ht, wf_f_2]
    exact wf_two FP.Core.good_b32 ⟨hE.1, by rw [wf_e32]; omega⟩ (by rw [wf_t32]; exact ht)
  exact FP.Core.val32_inj (by rw [h]; exact fun h => nomatch h) (by rw [h, wf_f_val ⟨by omega, by omega⟩ ht])
theorem wf_d_nn {E t : Nat} (hE : 1 ≤ E ∧ E ≤ 1023) (ht : t < 4503599627370496) : FP.Core.val64 (wf_d E t) ≠ .nan := by
  rw [wf_d_val hE ht]
  exact fun h => nomatch h
theorem wf_f_nn {E t : Nat} (hE : 1 ≤ E ∧ E ≤ 127) (ht : t < 8388608) : FP.Core.val32 (wf_f E t) ≠ .nan := by
  rw [wf_f_val hE ht]
  exact fun h => nomatch h
theorem wf_d_key {E t : Nat} (hE : E ≤ 1023) (ht : t < 4503599627370496) : FP.Core.dkey (wf_d E t) = (E : Int) * 4503599627370496 + t := by
  unfold FP.Core.dkey
  rw [wf_d_nat hE ht, if_neg (by show ¬ 9223372036854775808 ≤ _; omega)]
  omega
theorem wf_f_key {E t : Nat} (hE : E ≤ 127) (ht : t < 8388608) : FP.Core.fkey (wf_f E t) = (E : Int) * 8388608 + t := by
  unfold FP.Core.fkey
  rw [wf_f_nat hE ht, if_neg (by show ¬ 2147483648 ≤ _; omega)]
  omega
theorem wf_d_k1 : FP.Core.dkey (sp_dc 1) = 4607182418800017408 := by decide +kernel
theorem wf_f_k1 : FP.Core.fkey (sp_fc 1) = 1065353216 := by decide +kernel
theorem wf_d_k0 : FP.Core.dkey (sp_dc 0) = 0 := by decide +kernel
theorem wf_f_k0 : FP.Core.fkey (sp_fc 0) = 0 := by decide +kernel
theorem wf_d_n0 : FP.Core.val64 (sp_dc 0) ≠ .nan := by decide +kernel
theorem wf_f_n0 : FP.Core.val32 (sp_fc 0) ≠ .nan := by decide +kernel
theorem wf_d_n1 : FP.Core.val64 (sp_dc 1) ≠ .nan := by decide +kernel
theorem wf_f_n1 : FP.Core.val32 (sp_fc 1) ≠ .nan := by decide +kernel
/-- a comparison, by keys -/
theorem wf_d_cmp {x y : UInt64} {o : CmpOp} (hx : FP.Core.val64 x ≠ .nan) (hy : FP.Core.val64 y ≠ .nan) : (Op.cmpValue (FP.dcmp x y) o).toInt = if FP.Core.dkey x < FP.Core.dkey y then -1 else if FP.Core.dkey x = FP.Core.dkey y then 0 else 1 := by
  show (Op.cmpValue (FP.Core.dcmp x y) o).toInt = _
  by_cases h1 : FP.Core.dkey x < FP.Core.dkey y
  · rw [if_pos h1, (FP.Core.dcmp_lt_key hx hy).mpr h1]
    rfl
  · rw [if_neg h1]
    by_cases h2 : FP.Core.dkey x = FP.Core.dkey y
    · rw [if_pos h2, (FP.Core.dcmp_eq_key hx hy).mpr h2]
      rfl
    · rw [if_neg h2, (FP.Core.dcmp_gt_key hx hy).mpr (by omega)]
      rfl
theorem wf_f_cmp {x y : UInt32} {o : CmpOp} (hx : FP.Core.val32 x ≠ .nan) (hy : FP.Core.val32 y ≠ .nan) : (Op.cmpValue (FP.fcmp x y) o).toInt = if FP.Core.fkey x < FP.Core.fkey y then -1 else if FP.Core.fkey x = FP.Core.fkey y then 0 else 1 := by
  show (Op.cmpValue (FP.Core.fcmp x y) o).toInt = _
  rw [FP.Core.fcmp_key hx hy]
  by_cases h1 : FP.Core.fkey x < FP.Core.fkey y
  · rw [if_pos h1, (FP.Core.compare_lt_iff _ _).mpr h1]
    rfl
  · rw [if_neg h1]
    by_cases h2 : FP.Core.fkey x = FP.Core.fkey y
    · rw [if_pos h2, (FP.Core.compare_eq_iff _ _).mpr h2]
      rfl
    · rw [if_neg h2, (FP.Core.compare_gt_iff _ _).mpr (by omega)]
      rfl
/-- the class's loop to the exponent of 1 -/
theorem wf_w88_15 {T : sw_T} {t : Nat} (ht : t < 4503599627370496) : ∀ (k E : Nat) (l : Int), 1 ≤ E → E + k = 1023 → l ≥ k + 2 → l ≤ 1023 → ∀ m, k < m → w88_15 T m (wf_d E t) l = some (wf_d 1023 t, l - k) := by
  intro k
  induction k with
  | zero =>
    intro E l hE hk hl hl2 m hm
    obtain ⟨m, rfl⟩ : ∃ q, m = q + 1 := ⟨m - 1, by omega⟩
    obtain rfl : E = 1023 := by omega
    have hc : (Op.cmpValue (FP.dcmp (wf_d 1023 t) (sp_dc 1)) .g).toInt = if (1023 * 4503599627370496 + (t : Int)) < 4607182418800017408 then -1 else if (1023 * 4503599627370496 + (t : Int)) = 4607182418800017408 then 0 else 1 := by
      rw [wf_d_cmp (wf_d_nn (by decide) ht) wf_d_n1, wf_d_key (by decide) ht, wf_d_k1]
      rfl
    rw [w88_15, hc, if_neg (show ¬ (1023 * 4503599627370496 + (t : Int)) < 4607182418800017408 by omega)]
    have : (if (1023 * 4503599627370496 + (t : Int)) = 4607182418800017408 then (0 : Int) else 1) = 0 ∨ (if (1023 * 4503599627370496 + (t : Int)) = 4607182418800017408 then (0 : Int) else 1) = 1 := by
      split
      · exact .inl rfl
      · exact .inr rfl
    rcases this with e | e
    · rw [e, wb_r1 (by decide), Option.bind_some, if_neg (by decide), show l - ((0 : Nat) : Int) = l by omega]
    · rw [e, wb_r1 (by decide), Option.bind_some, if_neg (by decide), show l - ((0 : Nat) : Int) = l by omega]
  | succ k ih =>
    intro E l hE hk hl hl2 m hm
    obtain ⟨m, rfl⟩ : ∃ q, m = q + 1 := ⟨m - 1, by omega⟩
    have hc : (Op.cmpValue (FP.dcmp (wf_d E t) (sp_dc 1)) .g).toInt = -1 := by
      rw [wf_d_cmp (wf_d_nn ⟨hE, by omega⟩ ht) wf_d_n1, wf_d_key (by omega) ht, wf_d_k1, if_pos (by omega)]
    rw [w88_15, hc, wb_r1 (by decide), Option.bind_some, if_pos (by decide), wb_r2 ⟨by omega, by omega⟩ (by decide), Option.bind_some, if_pos (by omega), wf_d_up ⟨hE, by omega⟩ ht, wf_k64 (wf_d_nn ⟨by omega, by omega⟩ ht), Option.bind_some, ih (E + 1) (l + (-1)) (by omega) (by omega) (by omega) (by omega) m (by omega)]
    rw [show l + (-1) - (k : Int) = l - ((k + 1 : Nat) : Int) by omega]
theorem wf_w89_13 {T : sw_T} {t : Nat} (ht : t < 8388608) : ∀ (k E : Nat) (l : Int), 1 ≤ E → E + k = 127 → l ≥ k + 2 → l ≤ 127 → ∀ m, k < m → w89_13 T m (wf_f E t) l = some (wf_f 127 t, l - k) := by
  intro k
  induction k with
  | zero =>
    intro E l hE hk hl hl2 m hm
    obtain ⟨m, rfl⟩ : ∃ q, m = q + 1 := ⟨m - 1, by omega⟩
    obtain rfl : E = 127 := by omega
    have hc : (Op.cmpValue (FP.fcmp (wf_f 127 t) (sp_fc 1)) .g).toInt = if (127 * 8388608 + (t : Int)) < 1065353216 then -1 else if (127 * 8388608 + (t : Int)) = 1065353216 then 0 else 1 := by
      rw [wf_f_cmp (wf_f_nn (by decide) ht) wf_f_n1, wf_f_key (by decide) ht, wf_f_k1]
      rfl
    rw [w89_13, hc, if_neg (show ¬ (127 * 8388608 + (t : Int)) < 1065353216 by omega)]
    have : (if (127 * 8388608 + (t : Int)) = 1065353216 then (0 : Int) else 1) = 0 ∨ (if (127 * 8388608 + (t : Int)) = 1065353216 then (0 : Int) else 1) = 1 := by
      split
      · exact .inl rfl
      · exact .inr rfl
    rcases this with e | e
    · rw [e, wb_r1 (by decide), Option.bind_some, if_neg (by decide), show l - ((0 : Nat) : Int) = l by omega]
    · rw [e, wb_r1 (by decide), Option.bind_some, if_neg (by decide), show l - ((0 : Nat) : Int) = l by omega]
  | succ k ih =>
    intro E l hE hk hl hl2 m hm
    obtain ⟨m, rfl⟩ : ∃ q, m = q + 1 := ⟨m - 1, by omega⟩
    have hc : (Op.cmpValue (FP.fcmp (wf_f E t) (sp_fc 1)) .g).toInt = -1 := by
      rw [wf_f_cmp (wf_f_nn ⟨hE, by omega⟩ ht) wf_f_n1, wf_f_key (by omega) ht, wf_f_k1, if_pos (by omega)]
    rw [w89_13, hc, wb_r1 (by decide), Option.bind_some, if_pos (by decide), wb_r2 ⟨by omega, by omega⟩ (by decide), Option.bind_some, if_pos (by omega), wf_f_up ⟨hE, by omega⟩ ht, wf_k32 (wf_f_nn ⟨by omega, by omega⟩ ht), Option.bind_some, ih (E + 1) (l + (-1)) (by omega) (by omega) (by omega) (by omega) m (by omega)]
    rw [show l + (-1) - (k : Int) = l - ((k + 1 : Nat) : Int) by omega]
/-- the fraction -/
theorem wf_d_fr {t : Nat} (ht : t < 4503599627370496) : FP.Core.val64 (FP.dmul (FP.dsub (wf_d 1023 t) (sp_dc 1)) 4841369599423283200) ≠ .nan ∧ (FP.d2l (FP.dmul (FP.dsub (wf_d 1023 t) (sp_dc 1)) 4841369599423283200)).toInt = t := by
  have h : ∃ c q, FP.Core.val64 (FP.Core.dmul (FP.Core.dsub (wf_d 1023 t) (sp_dc 1)) 4841369599423283200) = .fin false c q ∧ FP.Core.inUnits c q FP.Core.b64.qmin = t * 2 ^ (-FP.Core.b64.qmin).toNat := by
    rw [FP.Core.val64_dmul, FP.Core.val64_dsub, wf_d_val (by decide) ht, wf_d_1, wf_d_m, show FP.Core.b64.qmin + (((1023 : Nat) : Int) - 1) = 1 - (FP.Core.b64.p : Int) by decide]
    exact wf_frac FP.Core.good_b64 (by decide) (by rw [wf_t64]; exact ht)
  obtain ⟨c, q, h1, h2⟩ := h
  have hn : FP.Core.val64 (FP.Core.dmul (FP.Core.dsub (wf_d 1023 t) (sp_dc 1)) 4841369599423283200) ≠ .nan := by
    rw [h1]
    exact fun h => nomatch h
  refine ⟨hn, ?_⟩
  show (FP.Core.d2l (FP.Core.dmul (FP.Core.dsub (wf_d 1023 t) (sp_dc 1)) 4841369599423283200)).toInt = t
  rw [FP.Core.d2l_val hn, h1]
  have hz : FP.Core.zmag FP.Core.b64 (.fin false c q) / FP.Core.one64 = t := by
    show FP.Core.inUnits c q FP.Core.b64.qmin / FP.Core.one64 = t
    rw [h2, FP.Core.pow_qmin64]
    exact Nat.mul_div_cancel _ FP.Core.one64_pos
  rw [hz]
  show max _ (min _ (t : Int)) = (t : Int)
  omega
theorem wf_f_fr {t : Nat} (ht : t < 8388608) : FP.Core.val32 (FP.fmul (FP.fsub (wf_f 127 t) (sp_fc 1)) 1258291200) ≠ .nan ∧ (FP.f2i (FP.fmul (FP.fsub (wf_f 127 t) (sp_fc 1)) 1258291200)).toInt = t := by
  have h : ∃ c q, FP.Core.val32 (FP.Core.fmul (FP.Core.fsub (wf_f 127 t) (sp_fc 1)) 1258291200) = .fin false c q ∧ FP.Core.inUnits c q FP.Core.b32.qmin = t * 2 ^ (-FP.Core.b32.qmin).toNat := by
    rw [FP.Core.val32_fmul, FP.Core.val32_fsub, wf_f_val (by decide) ht, wf_f_1, wf_f_m, show FP.Core.b32.qmin + (((127 : Nat) : Int) - 1) = 1 - (FP.Core.b32.p : Int) by decide]
    exact wf_frac FP.Core.good_b32 (by decide) (by rw [wf_t32]; exact ht)
  obtain ⟨c, q, h1, h2⟩ := h
  have hn : FP.Core.val32 (FP.Core.fmul (FP.Core.fsub (wf_f 127 t) (sp_fc 1)) 1258291200) ≠ .nan := by
    rw [h1]
    exact fun h => nomatch h
  refine ⟨hn, ?_⟩
  show (FP.Core.f2i (FP.Core.fmul (FP.Core.fsub (wf_f 127 t) (sp_fc 1)) 1258291200)).toInt = t
  rw [FP.Core.f2i_val hn, h1]
  have hz : FP.Core.zmag FP.Core.b32 (.fin false c q) / FP.Core.one32 = t := by
    show FP.Core.inUnits c q FP.Core.b32.qmin / FP.Core.one32 = t
    rw [h2, FP.Core.pow_qmin32]
    exact Nat.mul_div_cancel _ FP.Core.one32_pos
  rw [hz]
  show max _ (min _ (t : Int)) = (t : Int)
  omega
