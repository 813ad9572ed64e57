/-! ===== numbers with a fraction, in any format ===== -/
theorem wf_dec {f : FP.Core.Fmt} {n E T : Nat} (hn : n = E * f.tails + T) (hE : 1 ≤ E ∧ E + 1 < f.exps) (hT : T < f.tails) : FP.Core.decode f n = .fin false (f.tails + T) (f.qmin + ((E : Int) - 1)) := by
  have e : n = FP.Core.assemble f false E T := by
    unfold FP.Core.assemble
    rw [hn]
    simp
  rw [e, FP.Core.decode_assemble f false E T (by omega) hT, if_neg (by omega), if_neg (by omega)]
/-- twice -/
theorem wf_two {f : FP.Core.Fmt} (hf : FP.Core.Good f) {E T : Nat} (hE : 1 ≤ E ∧ E + 2 < f.exps) (hT : T < f.tails) : FP.Core.round f (FP.Core.exactProduct (.fin false (f.tails + T) (f.qmin + ((E : Int) - 1))) (.fin false f.tails (2 - (f.p : Int)))) = .fin false (f.tails + T) (f.qmin + (((E + 1 : Nat) : Int) - 1)) := by
  have h1 := FP.Core.two_tails hf
  have h2 := FP.Core.emax_exps hf
  have h3 := FP.Core.qmax_qmin f
  have hp := hf.2
  show FP.Core.roundRatio f false ((f.tails + T) * f.tails) 1 (f.qmin + ((E : Int) - 1) + (2 - (f.p : Int))) = _
  refine FP.Core.roundRatio_exact hf (by decide) ⟨by omega, by omega, by omega, .inr (by omega)⟩ ?_
  rw [show (f.qmin + ((E : Int) - 1) + (2 - (f.p : Int)) - (f.qmin + (((E + 1 : Nat) : Int) - 1))).toNat = 0 by omega, show (f.qmin + (((E + 1 : Nat) : Int) - 1) - (f.qmin + ((E : Int) - 1) + (2 - (f.p : Int)))).toNat = f.p - 1 by omega, Nat.pow_zero, Nat.mul_one, Nat.mul_one]
  rfl
/-- the fraction, as a whole number -/
theorem wf_frac {f : FP.Core.Fmt} (hf : FP.Core.Good f) (hm : 0 ≤ f.qmax) {T : Nat} (hT : T < f.tails) : ∃ c q, FP.Core.round f (FP.Core.exactProduct (FP.Core.round f (FP.Core.exactSum (.fin false (f.tails + T) (1 - (f.p : Int))) (FP.Core.negate (.fin false f.tails (1 - (f.p : Int)))))) (.fin false f.tails 0)) = .fin false c q ∧ FP.Core.inUnits c q f.qmin = T * 2 ^ (-f.qmin).toNat := by
  have h1 := FP.Core.two_tails hf
  have h2 := FP.Core.emax_exps hf
  have h3 := FP.Core.qmax_qmin f
  have h4 := FP.Core.emax_pos hf
  have hp := hf.2
  have hq : f.qmin = 2 - (f.emax : Int) - (f.p : Int) := rfl
  have hv : FP.Core.sumUnits false (f.tails + T) (1 - (f.p : Int)) true f.tails (1 - (f.p : Int)) (min (1 - (f.p : Int)) (1 - (f.p : Int))) = (T : Int) := by
    unfold FP.Core.sumUnits FP.Core.inUnits FP.Core.signed
    rw [show ((1 - (f.p : Int)) - min (1 - (f.p : Int)) (1 - (f.p : Int))).toNat = 0 by omega, Nat.pow_zero, Nat.mul_one, Nat.mul_one]
    rw [if_neg (by decide), if_pos rfl]
    omega
  have hs : FP.Core.exactSum (.fin false (f.tails + T) (1 - (f.p : Int))) (FP.Core.negate (.fin false f.tails (1 - (f.p : Int)))) = .fin false T (1 - (f.p : Int)) := by
    show FP.Core.Datum.fin (FP.Core.sumSign false true (FP.Core.sumUnits false (f.tails + T) (1 - (f.p : Int)) true f.tails (1 - (f.p : Int)) (min (1 - (f.p : Int)) (1 - (f.p : Int))))) (FP.Core.sumUnits false (f.tails + T) (1 - (f.p : Int)) true f.tails (1 - (f.p : Int)) (min (1 - (f.p : Int)) (1 - (f.p : Int)))).natAbs (min (1 - (f.p : Int)) (1 - (f.p : Int))) = _
    rw [hv]
    have e1 : FP.Core.sumSign false true (T : Int) = false := by
      unfold FP.Core.sumSign
      by_cases h : (T : Int) = 0
      · rw [if_pos h]
        rfl
      · rw [if_neg h]
        exact decide_eq_false (by omega)
    rw [e1, show ((T : Int)).natAbs = T by omega, show min (1 - (f.p : Int)) (1 - (f.p : Int)) = 1 - (f.p : Int) by omega]
  rw [hs]
  obtain ⟨c', q', e1, e2⟩ := FP.Core.round_exact hf false (c := T) (q := 1 - (f.p : Int)) (by omega) (by omega) (by omega)
  have hfit := FP.Core.round_fits hf (.fin false T (1 - (f.p : Int)))
  rw [e1] at hfit ⊢
  have hq' := hfit.2.1
  show ∃ c q, FP.Core.roundRatio f false (c' * f.tails) 1 (q' + 0) = .fin false c q ∧ _
  have e3 : FP.Core.roundRatio f false (c' * f.tails) 1 (q' + 0) = FP.Core.roundRatio f false T 1 0 := by
    refine FP.Core.roundRatio_congr (by decide) (by decide) ?_
    unfold FP.Core.inUnits at e2
    rw [Nat.mul_one, Nat.mul_one]
    refine Nat.eq_of_mul_eq_mul_right (Nat.two_pow_pos ((-f.qmin).toNat)) ?_
    have k1 : (q' + 0 - 0).toNat + (-f.qmin).toNat = (q' - f.qmin).toNat + (0 - (q' + 0)).toNat := by omega
    have k2 : (1 - (f.p : Int) - f.qmin).toNat + (f.p - 1) = (-f.qmin).toNat := by omega
    have ht : f.tails = 2 ^ (f.p - 1) := rfl
    calc c' * f.tails * 2 ^ (q' + 0 - 0).toNat * 2 ^ (-f.qmin).toNat = c' * f.tails * 2 ^ ((q' + 0 - 0).toNat + (-f.qmin).toNat) := by rw [Nat.pow_add, Nat.mul_assoc]
      _ = c' * 2 ^ (q' - f.qmin).toNat * f.tails * 2 ^ (0 - (q' + 0)).toNat := by rw [k1, Nat.pow_add]; ac_rfl
      _ = T * 2 ^ (1 - (f.p : Int) - f.qmin).toNat * f.tails * 2 ^ (0 - (q' + 0)).toNat := by rw [e2]
      _ = T * 2 ^ (-f.qmin).toNat * 2 ^ (0 - (q' + 0)).toNat := by rw [ht, Nat.mul_assoc T, ← Nat.pow_add, k2]
      _ = T * 2 ^ (0 - (q' + 0)).toNat * 2 ^ (-f.qmin).toNat := by ac_rfl
  rw [e3]
  obtain ⟨c, q, g1, g2⟩ := FP.Core.round_exact hf false (c := T) (q := 0) (by omega) (by omega) (by omega)
  refine ⟨c, q, g1, ?_⟩
  rw [g2]
  unfold FP.Core.inUnits
  rw [show (0 : Int) - f.qmin = -f.qmin by omega]
/-- a quotient of whole numbers -/
theorem wf_quo {f : FP.Core.Fmt} (hf : FP.Core.Good f) {a b : Nat} (ha : a < 2 ^ f.p) (hb : 0 < b ∧ b < 2 ^ f.p) (hm : 0 ≤ f.qmax ∧ f.qmin ≤ 0) : FP.Core.quotient f (FP.Core.round f (.fin false a 0)) (FP.Core.round f (.fin false b 0)) = FP.Core.roundRatio f false a b 0 := by
  obtain ⟨c, x, e1, e2⟩ := FP.Core.round_exact hf false (c := a) (q := 0) ha hm.2 hm.1
  obtain ⟨d, y, g1, g2⟩ := FP.Core.round_exact hf false (c := b) (q := 0) hb.2 hm.2 hm.1
  have f1 := FP.Core.round_fits hf (.fin false a 0)
  have f2 := FP.Core.round_fits hf (.fin false b 0)
  rw [e1] at f1 ⊢
  rw [g1] at f2 ⊢
  have hx := f1.2.1
  have hy := f2.2.1
  unfold FP.Core.inUnits at e2 g2
  have hP := Nat.two_pow_pos ((0 - f.qmin).toNat)
  have hd : d ≠ 0 := by
    rintro rfl
    rw [Nat.zero_mul] at g2
    have := Nat.mul_pos hb.1 hP
    omega
  show (if d = 0 then (if c = 0 then FP.Core.Datum.nan else .inf (false != false)) else FP.Core.roundRatio f (false != false) c d (x - y)) = _
  rw [if_neg hd]
  show FP.Core.roundRatio f false c d (x - y) = _
  refine FP.Core.roundRatio_congr (by omega) hb.1 ?_
  refine Nat.eq_of_mul_eq_mul_right (Nat.mul_pos hP (Nat.two_pow_pos ((y - f.qmin).toNat))) ?_
  have k1 : (x - y - 0).toNat + (y - f.qmin).toNat = (x - f.qmin).toNat + (0 - (x - y)).toNat := by omega
  calc c * b * 2 ^ (x - y - 0).toNat * (2 ^ (0 - f.qmin).toNat * 2 ^ (y - f.qmin).toNat) = c * (b * 2 ^ (0 - f.qmin).toNat) * 2 ^ ((x - y - 0).toNat + (y - f.qmin).toNat) := by rw [Nat.pow_add]; ac_rfl
    _ = (c * 2 ^ (x - f.qmin).toNat) * (b * 2 ^ (0 - f.qmin).toNat) * 2 ^ (0 - (x - y)).toNat := by rw [k1, Nat.pow_add]; ac_rfl
    _ = (a * 2 ^ (0 - f.qmin).toNat) * (d * 2 ^ (y - f.qmin).toNat) * 2 ^ (0 - (x - y)).toNat := by rw [e2, g2]
    _ = a * d * 2 ^ (0 - (x - y)).toNat * (2 ^ (0 - f.qmin).toNat * 2 ^ (y - f.qmin).toNat) := by ac_rfl
/-- the bits of a quotient that is 1 at most -/
theorem wf_rng {f : FP.Core.Fmt} (hf : FP.Core.Good f) {n a b K L : Nat} (hn : FP.Core.decode f n = FP.Core.roundRatio f false a b 0) (hn2 : n < 2 * FP.Core.half f) (hq : f.qmin ≤ 0) (hb : 0 < b) (hab : a ≤ b) (hK : 1 ≤ K ∧ f.tails * 2 ^ (K - 1) = 2 ^ (0 - f.qmin).toNat) (hL : 1 ≤ L ∧ L ≤ f.exps - 1) (hLb : f.tails * 2 ^ (L - 1) * b ≤ a * 2 ^ (0 - f.qmin).toNat) : L * f.tails ≤ n ∧ n ≤ K * f.tails := by
  have hs : FP.Core.sgn (FP.Core.decode f n) = false := by rw [hn, FP.Core.sgn_roundRatio]
  have h1 : FP.Core.mag f n ≤ FP.Core.infBits f := Nat.le_of_not_lt fun h1 => FP.Core.roundRatio_ne_nan f false a b 0 (hn ▸ (FP.Core.decode_nan n).mpr h1)
  rw [FP.Core.sgn_decode h1 hn2] at hs
  have hh : n < FP.Core.half f := by
    have := of_decide_eq_false hs
    omega
  have hmag : FP.Core.mag f n = n := FP.Core.mag_of_lt hh
  constructor
  · have := FP.Core.mag_ge hf (m := L * f.tails) (e0 := f.qmin) hn hb (by omega) (by omega) (Nat.mul_le_mul_right _ hL.2) (by
      rw [FP.Core.unitsOf_start hL.1, Int.sub_self, Int.toNat_zero, Nat.pow_zero, Nat.mul_one]
      exact hLb)
    rw [hmag] at this
    exact this
  · have := FP.Core.mag_le hf (m := K * f.tails) (e0 := f.qmin) hn hb (by omega) (by omega) (by
      rw [FP.Core.unitsOf_start hK.1, Int.sub_self, Int.toNat_zero, Nat.pow_zero, Nat.mul_one, hK.2, Nat.mul_comm _ b]
      exact Nat.mul_le_mul_right _ hab)
    rw [hmag] at this
    exact this
theorem wf_zero {f : FP.Core.Fmt} {b : Nat} : FP.Core.roundRatio f false 0 b 0 = .fin false 0 f.qmin := if_pos rfl
