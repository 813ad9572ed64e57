/-! ===== the steps over a table: numbers, jumps, calls ===== -/
section SWB
variable {G : sp_G} {z n y pc t c idx : Nat} {off : Int} {F : sw_F} {T T' : sw_T} {K : sw_K} {L L' : sp_L} {st : List Value} {M : sp_M} {Q : sp_R → sp_M → Prop}
theorem ga_k8 {u : Int} (d : sq_in y pc (.bipush u) 2) (h : (Int8.ofInt u).toInt32 = Int32.ofInt u) (kk : sq_go G y (pc + 2) L (.int (Int32.ofInt u) :: st) M Q) : sq_go G y pc L st M Q := go_s d (by show some (_ :: st) = _; rw [h]) kk
theorem ga_k16 {u : Int} (d : sq_in y pc (.sipush u) 3) (h : (Int16.ofInt u).toInt32 = Int32.ofInt u) (kk : sq_go G y (pc + 3) L (.int (Int32.ofInt u) :: st) M Q) : sq_go G y pc L st M Q := go_s d (by show some (_ :: st) = _; rw [h]) kk
theorem ga_k64 (d : sq_in y pc (.ldc2_w idx) 3) (hc : sq_c y = c) {w : Int64} {u : Int} (hf : sp_fd sp_clT c idx = some w) (hu : w = Int64.ofInt u) (kk : sq_go G y (pc + 3) L (.long (Int64.ofInt u) :: st) M Q) : sq_go G y pc L st M Q := by
  subst hu
  refine go_c d (st' := .long (Int64.ofInt u) :: st) ?_ kk
  show (match sp_fd sp_clT (sq_c y) idx with | some v => some (Value.long v :: st) | none => (sp_fd sp_cdT (sq_c y) idx).map (fun v => Value.double v :: st)) = _
  rw [hc, hf]
theorem ga_iadd {a b : Int} (d : sq_in y pc .iadd 1) (kk : sq_go G y (pc + 1) L (.int (Int32.ofInt (a + b)) :: st) M Q) : sq_go G y pc L (.int (Int32.ofInt b) :: .int (Int32.ofInt a) :: st) M Q := go_s d (st' := .int (Int32.ofInt a + Int32.ofInt b) :: st) rfl (by rw [← Int32.ofInt_add]; exact kk)
theorem ga_isub {a b : Int} (d : sq_in y pc .isub 1) (kk : sq_go G y (pc + 1) L (.int (Int32.ofInt (a - b)) :: st) M Q) : sq_go G y pc L (.int (Int32.ofInt b) :: .int (Int32.ofInt a) :: st) M Q := go_s d (st' := .int (Int32.ofInt a - Int32.ofInt b) :: st) rfl (by rw [← Int32.ofInt_sub]; exact kk)
theorem ga_imul {a b : Int} (d : sq_in y pc .imul 1) (kk : sq_go G y (pc + 1) L (.int (Int32.ofInt (a * b)) :: st) M Q) : sq_go G y pc L (.int (Int32.ofInt b) :: .int (Int32.ofInt a) :: st) M Q := go_s d (st' := .int (Int32.ofInt a * Int32.ofInt b) :: st) rfl (by rw [← Int32.ofInt_mul]; exact kk)
theorem ga_ladd {a b : Int} (d : sq_in y pc .ladd 1) (kk : sq_go G y (pc + 1) L (.long (Int64.ofInt (a + b)) :: st) M Q) : sq_go G y pc L (.long (Int64.ofInt b) :: .long (Int64.ofInt a) :: st) M Q := go_s d (st' := .long (Int64.ofInt a + Int64.ofInt b) :: st) rfl (by rw [← Int64.ofInt_add]; exact kk)
theorem ga_lmul {a b : Int} (d : sq_in y pc .lmul 1) (kk : sq_go G y (pc + 1) L (.long (Int64.ofInt (a * b)) :: st) M Q) : sq_go G y pc L (.long (Int64.ofInt b) :: .long (Int64.ofInt a) :: st) M Q := go_s d (st' := .long (Int64.ofInt a * Int64.ofInt b) :: st) rfl (by rw [← Int64.ofInt_mul]; exact kk)
theorem ga_i2l {a : Int} {u : Unit} (d : sq_in y pc .i2l 1) (e : sw_r1 a = some u) (kk : sq_go G y (pc + 1) L (.long (Int64.ofInt a) :: st) M Q) : sq_go G y pc L (.int (Int32.ofInt a) :: st) M Q := by
  obtain ⟨h, -⟩ := sw_gd e
  refine go_s d (st' := .long (Int32.ofInt a).toInt64 :: st) rfl ?_
  have h1 : (Int32.ofInt a).toInt64 = Int64.ofInt a := by
    rw [← Int64.ofInt_int32ToInt, sw_ri h]
  rw [h1]
  exact kk
theorem sw_and31 (a : Int) : Int32.ofInt a &&& Int32.ofInt 31 = Int32.ofInt (a % 32) := by
  apply Int32.toBitVec_inj.mp
  rw [Int32.toBitVec_and, Int32.toBitVec_ofInt, Int32.toBitVec_ofInt, Int32.toBitVec_ofInt]
  apply BitVec.eq_of_toNat_eq
  rw [BitVec.toNat_and, BitVec.toNat_ofInt, BitVec.toNat_ofInt, BitVec.toNat_ofInt]
  rw [show ((31 : Int) % ((2 ^ 32 : Nat) : Int)).toNat = 2 ^ 5 - 1 from rfl, Nat.and_two_pow_sub_one_eq_mod]
  omega
theorem sw_shl23 (a : Int) : Int32.ofInt a <<< (Int32.ofInt 23 &&& 31) = Int32.ofInt (a * 8388608) := by
  apply Int32.toBitVec_inj.mp
  rw [Int32.toBitVec_shiftLeft, Int32.toBitVec_ofInt, Int32.toBitVec_ofInt]
  have h : ((Int32.ofInt 23 &&& 31).toBitVec.smod 32#32) = 23#32 := by decide
  first | rw [h] | (simp only [show ((Int32.ofInt 23 &&& 31).toBitVec).smod 32 = 23#32 from by decide])
  apply BitVec.eq_of_toNat_eq
  simp [BitVec.toNat_ofInt, Nat.shiftLeft_eq]
  omega
theorem sw_shl52 (a : Int) : Int64.ofInt a <<< ((Int32.ofInt 52).toInt64 &&& 63) = Int64.ofInt (a * 4503599627370496) := by
  apply Int64.toBitVec_inj.mp
  rw [Int64.toBitVec_shiftLeft, Int64.toBitVec_ofInt, Int64.toBitVec_ofInt]
  have h : (((Int32.ofInt 52).toInt64 &&& 63).toBitVec.smod 64#64) = 52#64 := by decide
  first | rw [h] | (simp only [show (((Int32.ofInt 52).toInt64 &&& 63).toBitVec).smod 64 = 52#64 from by decide])
  apply BitVec.eq_of_toNat_eq
  simp [BitVec.toNat_ofInt, Nat.shiftLeft_eq]
  omega
theorem ga_iand {a : Int} (d : sq_in y pc .iand 1) (kk : sq_go G y (pc + 1) L (.int (Int32.ofInt (a % 32)) :: st) M Q) : sq_go G y pc L (.int (Int32.ofInt 31) :: .int (Int32.ofInt a) :: st) M Q := go_s d (st' := .int (Int32.ofInt a &&& Int32.ofInt 31) :: st) rfl (by rw [sw_and31]; exact kk)
theorem ga_ishl {a : Int} (d : sq_in y pc .ishl 1) (kk : sq_go G y (pc + 1) L (.int (Int32.ofInt (a * 8388608)) :: st) M Q) : sq_go G y pc L (.int (Int32.ofInt 23) :: .int (Int32.ofInt a) :: st) M Q := go_s d (st' := .int (Int32.ofInt a <<< (Int32.ofInt 23 &&& 31)) :: st) rfl (by rw [sw_shl23]; exact kk)
theorem ga_lshl {a : Int} (d : sq_in y pc .lshl 1) (kk : sq_go G y (pc + 1) L (.long (Int64.ofInt (a * 4503599627370496)) :: st) M Q) : sq_go G y pc L (.int (Int32.ofInt 52) :: .long (Int64.ofInt a) :: st) M Q := go_s d (st' := .long (Int64.ofInt a <<< ((Int32.ofInt 52).toInt64 &&& 63)) :: st) rfl (by rw [sw_shl52]; exact kk)
theorem sw_idiv {a b : Int} (h : (0 ≤ a ∧ a < 2147483648) ∧ (0 < b ∧ b < 2147483648)) : Int32.ofInt a / Int32.ofInt b = Int32.ofInt (a / b) ∧ Int32.ofInt b ≠ 0 := by
  have ha := sw_ri (a := a) ⟨by omega, by omega⟩
  have hb := sw_ri (a := b) ⟨by omega, by omega⟩
  have hq : 0 ≤ a / b := Int.ediv_nonneg h.1.1 (by omega)
  have hq2 : a / b ≤ a := Int.ediv_le_self b h.1.1
  constructor
  · apply Int32.toInt_inj.mp
    rw [Int32.toInt_div, ha, hb, sw_ri ⟨by omega, by omega⟩, Int.tdiv_eq_ediv_of_nonneg h.1.1]
    exact Int.bmod_eq_of_le (by omega) (by omega)
  · intro h0
    have : (Int32.ofInt b).toInt = 0 := by rw [h0]; rfl
    omega
theorem ga_idiv {a b : Int} {u : Unit} (d : sq_in y pc .idiv 1) (e : sw_dv a b = some u) (kk : sq_go G y (pc + 1) L (.int (Int32.ofInt (a / b)) :: st) M Q) : sq_go G y pc L (.int (Int32.ofInt b) :: .int (Int32.ofInt a) :: st) M Q := by
  obtain ⟨h, -⟩ := sw_gd e
  obtain ⟨h1, h2⟩ := sw_idiv h
  refine go_s d (st' := .int (Int32.ofInt (a / b)) :: st) ?_ kk
  show (if Int32.ofInt b = 0 then none else some (.int (Int32.ofInt a / Int32.ofInt b) :: st)) = _
  rw [if_neg h2, h1]
theorem ga_irem {a b : Int} {u : Unit} (d : sq_in y pc .irem 1) (e : sw_dv a b = some u) (kk : sq_go G y (pc + 1) L (.int (Int32.ofInt (a % b)) :: st) M Q) : sq_go G y pc L (.int (Int32.ofInt b) :: .int (Int32.ofInt a) :: st) M Q := by
  obtain ⟨h, -⟩ := sw_gd e
  obtain ⟨h1, h2⟩ := sw_idiv h
  refine go_s d (st' := .int (Int32.ofInt (a % b)) :: st) ?_ kk
  show (if Int32.ofInt b = 0 then none else some (.int (Int32.ofInt a - Int32.ofInt a / Int32.ofInt b * Int32.ofInt b) :: st)) = _
  rw [if_neg h2, h1, ← Int32.ofInt_mul, ← Int32.ofInt_sub, Int.emod_def, Int.mul_comm]
theorem ga_i2c {a : Int} {u : Unit} (d : sq_in y pc .i2c 1) (e : sw_c16 a = some u) (kk : sq_go G y (pc + 1) L (.int (Int32.ofInt a) :: st) M Q) : sq_go G y pc L (.int (Int32.ofInt a) :: st) M Q := by
  obtain ⟨h, -⟩ := sw_gd e
  refine go_s d (st' := .int ((Int32.ofInt a).toUInt32 % 65536).toInt32 :: st) rfl ?_
  obtain ⟨w, rfl⟩ := Int.eq_ofNat_of_zero_le h.1
  rw [sw_nch0 (by omega)]
  exact kk
theorem ga_ii {k : Nat} {w : Int} {a : Int} (d : sq_in y pc (.iinc k w) 3) (h : sp_ld L k = some (.int (Int32.ofInt a))) (h2 : sp_s1 L k (.int (Int32.ofInt (a + w))) = some L') (kk : sq_go G y (pc + 3) L' st M Q) : sq_go G y pc L st M Q := by
  refine go_l d (L' := L') (st' := st) ?_ kk
  show (match sp_ld L k with | some (.int x) => (sp_s1 L k (.int (x + Int32.ofInt w))).map (fun l => (l, st)) | _ => none) = _
  rw [h]
  show (sp_s1 L k (.int (Int32.ofInt a + Int32.ofInt w))).map (fun l => (l, st)) = _
  rw [← Int32.ofInt_add, h2]
  rfl
theorem sw_lt2 {a b : Int} {u : Unit} (e : sw_r2 a b = some u) : (Int32.ofInt a < Int32.ofInt b ↔ a < b) ∧ (Int32.ofInt a = Int32.ofInt b ↔ a = b) ∧ (Int32.ofInt a ≤ Int32.ofInt b ↔ a ≤ b) ∧ (Int32.ofInt b < Int32.ofInt a ↔ b < a) ∧ (Int32.ofInt b ≤ Int32.ofInt a ↔ b ≤ a) := by
  obtain ⟨⟨h1, h2⟩, -⟩ := sw_gd e
  refine ⟨?_, ?_, ?_, ?_, ?_⟩
  · rw [Int32.lt_iff_toInt_lt, sw_ri h1, sw_ri h2]
  · rw [← Int32.toInt_inj, sw_ri h1, sw_ri h2]
  · rw [Int32.le_iff_toInt_le, sw_ri h1, sw_ri h2]
  · rw [Int32.lt_iff_toInt_lt, sw_ri h1, sw_ri h2]
  · rw [Int32.le_iff_toInt_le, sw_ri h1, sw_ri h2]
theorem sw_r10 {a : Int} {u : Unit} (e : sw_r1 a = some u) : sw_r2 a 0 = some () := by
  obtain ⟨h1, -⟩ := sw_gd e
  exact if_pos ⟨h1, by decide⟩
theorem ga_jp (d : sq_in y pc (.goto off) 3) (ht : sp_tg pc off = some t) (kk : sq_go G y t L st M Q) : sq_go G y pc L st M Q := by
  refine go_j d (pc' := t) (st' := st) ?_ kk
  show (sp_tg pc off).map (fun t => (t, st)) = _
  rw [ht]
  rfl
theorem ga_ceqN {a b : Int} {u : Unit} (d : sq_in y pc (.if_icmp .eq off) 3) (e : sw_r2 a b = some u) (hb : ¬ a = b) (ht : sp_tg pc off = some t) (kk : sq_go G y (pc + 3) L st M Q) : sq_go G y pc L (.int (Int32.ofInt b) :: .int (Int32.ofInt a) :: st) M Q := by
  have hv : decide (Int32.ofInt a = Int32.ofInt b) = false := decide_eq_false (fun h => hb ((sw_lt2 e).2.1.mp h))
  refine go_j d (pc' := (pc + 3)) (st' := st) ?_ kk
  show sp_br (decide (Int32.ofInt a = Int32.ofInt b)) pc off st = _
  rw [hv]
  unfold sp_br
  rw [ht]
  rfl
theorem ga_ceqY {a b : Int} {u : Unit} (d : sq_in y pc (.if_icmp .eq off) 3) (e : sw_r2 a b = some u) (hb : a = b) (ht : sp_tg pc off = some t) (kk : sq_go G y t L st M Q) : sq_go G y pc L (.int (Int32.ofInt b) :: .int (Int32.ofInt a) :: st) M Q := by
  have hv : decide (Int32.ofInt a = Int32.ofInt b) = true := decide_eq_true ((sw_lt2 e).2.1.mpr hb)
  refine go_j d (pc' := t) (st' := st) ?_ kk
  show sp_br (decide (Int32.ofInt a = Int32.ofInt b)) pc off st = _
  rw [hv]
  unfold sp_br
  rw [ht]
  rfl
theorem ga_zeqN {a : Int} {u : Unit} (d : sq_in y pc (.ifCond .eq off) 3) (e : sw_r1 a = some u) (hb : ¬ a = 0) (ht : sp_tg pc off = some t) (kk : sq_go G y (pc + 3) L st M Q) : sq_go G y pc L (.int (Int32.ofInt a) :: st) M Q := by
  have hv : decide (Int32.ofInt a = 0) = false := decide_eq_false (fun h => hb ((sw_lt2 (sw_r10 e)).2.1.mp h))
  refine go_j d (pc' := (pc + 3)) (st' := st) ?_ kk
  show sp_br (decide (Int32.ofInt a = 0)) pc off st = _
  rw [hv]
  unfold sp_br
  rw [ht]
  rfl
theorem ga_zeqY {a : Int} {u : Unit} (d : sq_in y pc (.ifCond .eq off) 3) (e : sw_r1 a = some u) (hb : a = 0) (ht : sp_tg pc off = some t) (kk : sq_go G y t L st M Q) : sq_go G y pc L (.int (Int32.ofInt a) :: st) M Q := by
  have hv : decide (Int32.ofInt a = 0) = true := decide_eq_true ((sw_lt2 (sw_r10 e)).2.1.mpr hb)
  refine go_j d (pc' := t) (st' := st) ?_ kk
  show sp_br (decide (Int32.ofInt a = 0)) pc off st = _
  rw [hv]
  unfold sp_br
  rw [ht]
  rfl
theorem ga_cneN {a b : Int} {u : Unit} (d : sq_in y pc (.if_icmp .ne off) 3) (e : sw_r2 a b = some u) (hb : ¬ a = b) (ht : sp_tg pc off = some t) (kk : sq_go G y t L st M Q) : sq_go G y pc L (.int (Int32.ofInt b) :: .int (Int32.ofInt a) :: st) M Q := by
  have hv : decide (¬ Int32.ofInt a = Int32.ofInt b) = true := decide_eq_true ((not_congr (sw_lt2 e).2.1).mpr hb)
  refine go_j d (pc' := t) (st' := st) ?_ kk
  show sp_br (decide (¬ Int32.ofInt a = Int32.ofInt b)) pc off st = _
  rw [hv]
  unfold sp_br
  rw [ht]
  rfl
theorem ga_cneY {a b : Int} {u : Unit} (d : sq_in y pc (.if_icmp .ne off) 3) (e : sw_r2 a b = some u) (hb : a = b) (ht : sp_tg pc off = some t) (kk : sq_go G y (pc + 3) L st M Q) : sq_go G y pc L (.int (Int32.ofInt b) :: .int (Int32.ofInt a) :: st) M Q := by
  have hv : decide (¬ Int32.ofInt a = Int32.ofInt b) = false := decide_eq_false (fun h => (fun h => h hb) ((not_congr (sw_lt2 e).2.1).mp h))
  refine go_j d (pc' := (pc + 3)) (st' := st) ?_ kk
  show sp_br (decide (¬ Int32.ofInt a = Int32.ofInt b)) pc off st = _
  rw [hv]
  unfold sp_br
  rw [ht]
  rfl
theorem ga_zneN {a : Int} {u : Unit} (d : sq_in y pc (.ifCond .ne off) 3) (e : sw_r1 a = some u) (hb : ¬ a = 0) (ht : sp_tg pc off = some t) (kk : sq_go G y t L st M Q) : sq_go G y pc L (.int (Int32.ofInt a) :: st) M Q := by
  have hv : decide (¬ Int32.ofInt a = 0) = true := decide_eq_true ((not_congr (sw_lt2 (sw_r10 e)).2.1).mpr hb)
  refine go_j d (pc' := t) (st' := st) ?_ kk
  show sp_br (decide (¬ Int32.ofInt a = 0)) pc off st = _
  rw [hv]
  unfold sp_br
  rw [ht]
  rfl
theorem ga_zneY {a : Int} {u : Unit} (d : sq_in y pc (.ifCond .ne off) 3) (e : sw_r1 a = some u) (hb : a = 0) (ht : sp_tg pc off = some t) (kk : sq_go G y (pc + 3) L st M Q) : sq_go G y pc L (.int (Int32.ofInt a) :: st) M Q := by
  have hv : decide (¬ Int32.ofInt a = 0) = false := decide_eq_false (fun h => (fun h => h hb) ((not_congr (sw_lt2 (sw_r10 e)).2.1).mp h))
  refine go_j d (pc' := (pc + 3)) (st' := st) ?_ kk
  show sp_br (decide (¬ Int32.ofInt a = 0)) pc off st = _
  rw [hv]
  unfold sp_br
  rw [ht]
  rfl
theorem ga_cltN {a b : Int} {u : Unit} (d : sq_in y pc (.if_icmp .lt off) 3) (e : sw_r2 a b = some u) (hb : ¬ a < b) (ht : sp_tg pc off = some t) (kk : sq_go G y (pc + 3) L st M Q) : sq_go G y pc L (.int (Int32.ofInt b) :: .int (Int32.ofInt a) :: st) M Q := by
  have hv : decide (Int32.ofInt a < Int32.ofInt b) = false := decide_eq_false (fun h => hb ((sw_lt2 e).1.mp h))
  refine go_j d (pc' := (pc + 3)) (st' := st) ?_ kk
  show sp_br (decide (Int32.ofInt a < Int32.ofInt b)) pc off st = _
  rw [hv]
  unfold sp_br
  rw [ht]
  rfl
theorem ga_cltY {a b : Int} {u : Unit} (d : sq_in y pc (.if_icmp .lt off) 3) (e : sw_r2 a b = some u) (hb : a < b) (ht : sp_tg pc off = some t) (kk : sq_go G y t L st M Q) : sq_go G y pc L (.int (Int32.ofInt b) :: .int (Int32.ofInt a) :: st) M Q := by
  have hv : decide (Int32.ofInt a < Int32.ofInt b) = true := decide_eq_true ((sw_lt2 e).1.mpr hb)
  refine go_j d (pc' := t) (st' := st) ?_ kk
  show sp_br (decide (Int32.ofInt a < Int32.ofInt b)) pc off st = _
  rw [hv]
  unfold sp_br
  rw [ht]
  rfl
theorem ga_zltN {a : Int} {u : Unit} (d : sq_in y pc (.ifCond .lt off) 3) (e : sw_r1 a = some u) (hb : ¬ a < 0) (ht : sp_tg pc off = some t) (kk : sq_go G y (pc + 3) L st M Q) : sq_go G y pc L (.int (Int32.ofInt a) :: st) M Q := by
  have hv : decide (Int32.ofInt a < 0) = false := decide_eq_false (fun h => hb ((sw_lt2 (sw_r10 e)).1.mp h))
  refine go_j d (pc' := (pc + 3)) (st' := st) ?_ kk
  show sp_br (decide (Int32.ofInt a < 0)) pc off st = _
  rw [hv]
  unfold sp_br
  rw [ht]
  rfl
theorem ga_zltY {a : Int} {u : Unit} (d : sq_in y pc (.ifCond .lt off) 3) (e : sw_r1 a = some u) (hb : a < 0) (ht : sp_tg pc off = some t) (kk : sq_go G y t L st M Q) : sq_go G y pc L (.int (Int32.ofInt a) :: st) M Q := by
  have hv : decide (Int32.ofInt a < 0) = true := decide_eq_true ((sw_lt2 (sw_r10 e)).1.mpr hb)
  refine go_j d (pc' := t) (st' := st) ?_ kk
  show sp_br (decide (Int32.ofInt a < 0)) pc off st = _
  rw [hv]
  unfold sp_br
  rw [ht]
  rfl
theorem ga_cgeN {a b : Int} {u : Unit} (d : sq_in y pc (.if_icmp .ge off) 3) (e : sw_r2 a b = some u) (hb : ¬ a < b) (ht : sp_tg pc off = some t) (kk : sq_go G y t L st M Q) : sq_go G y pc L (.int (Int32.ofInt b) :: .int (Int32.ofInt a) :: st) M Q := by
  have hv : decide (Int32.ofInt b ≤ Int32.ofInt a) = true := decide_eq_true ((sw_lt2 e).2.2.2.2.mpr (Int.not_lt.mp hb))
  refine go_j d (pc' := t) (st' := st) ?_ kk
  show sp_br (decide (Int32.ofInt b ≤ Int32.ofInt a)) pc off st = _
  rw [hv]
  unfold sp_br
  rw [ht]
  rfl
theorem ga_cgeY {a b : Int} {u : Unit} (d : sq_in y pc (.if_icmp .ge off) 3) (e : sw_r2 a b = some u) (hb : a < b) (ht : sp_tg pc off = some t) (kk : sq_go G y (pc + 3) L st M Q) : sq_go G y pc L (.int (Int32.ofInt b) :: .int (Int32.ofInt a) :: st) M Q := by
  have hv : decide (Int32.ofInt b ≤ Int32.ofInt a) = false := decide_eq_false (fun h => (Int.not_le.mpr hb) ((sw_lt2 e).2.2.2.2.mp h))
  refine go_j d (pc' := (pc + 3)) (st' := st) ?_ kk
  show sp_br (decide (Int32.ofInt b ≤ Int32.ofInt a)) pc off st = _
  rw [hv]
  unfold sp_br
  rw [ht]
  rfl
theorem ga_zgeN {a : Int} {u : Unit} (d : sq_in y pc (.ifCond .ge off) 3) (e : sw_r1 a = some u) (hb : ¬ a < 0) (ht : sp_tg pc off = some t) (kk : sq_go G y t L st M Q) : sq_go G y pc L (.int (Int32.ofInt a) :: st) M Q := by
  have hv : decide (0 ≤ Int32.ofInt a) = true := decide_eq_true ((sw_lt2 (sw_r10 e)).2.2.2.2.mpr (Int.not_lt.mp hb))
  refine go_j d (pc' := t) (st' := st) ?_ kk
  show sp_br (decide (0 ≤ Int32.ofInt a)) pc off st = _
  rw [hv]
  unfold sp_br
  rw [ht]
  rfl
theorem ga_zgeY {a : Int} {u : Unit} (d : sq_in y pc (.ifCond .ge off) 3) (e : sw_r1 a = some u) (hb : a < 0) (ht : sp_tg pc off = some t) (kk : sq_go G y (pc + 3) L st M Q) : sq_go G y pc L (.int (Int32.ofInt a) :: st) M Q := by
  have hv : decide (0 ≤ Int32.ofInt a) = false := decide_eq_false (fun h => (Int.not_le.mpr hb) ((sw_lt2 (sw_r10 e)).2.2.2.2.mp h))
  refine go_j d (pc' := (pc + 3)) (st' := st) ?_ kk
  show sp_br (decide (0 ≤ Int32.ofInt a)) pc off st = _
  rw [hv]
  unfold sp_br
  rw [ht]
  rfl
theorem ga_cgtN {a b : Int} {u : Unit} (d : sq_in y pc (.if_icmp .gt off) 3) (e : sw_r2 a b = some u) (hb : ¬ b < a) (ht : sp_tg pc off = some t) (kk : sq_go G y (pc + 3) L st M Q) : sq_go G y pc L (.int (Int32.ofInt b) :: .int (Int32.ofInt a) :: st) M Q := by
  have hv : decide (Int32.ofInt b < Int32.ofInt a) = false := decide_eq_false (fun h => hb ((sw_lt2 e).2.2.2.1.mp h))
  refine go_j d (pc' := (pc + 3)) (st' := st) ?_ kk
  show sp_br (decide (Int32.ofInt b < Int32.ofInt a)) pc off st = _
  rw [hv]
  unfold sp_br
  rw [ht]
  rfl
theorem ga_cgtY {a b : Int} {u : Unit} (d : sq_in y pc (.if_icmp .gt off) 3) (e : sw_r2 a b = some u) (hb : b < a) (ht : sp_tg pc off = some t) (kk : sq_go G y t L st M Q) : sq_go G y pc L (.int (Int32.ofInt b) :: .int (Int32.ofInt a) :: st) M Q := by
  have hv : decide (Int32.ofInt b < Int32.ofInt a) = true := decide_eq_true ((sw_lt2 e).2.2.2.1.mpr hb)
  refine go_j d (pc' := t) (st' := st) ?_ kk
  show sp_br (decide (Int32.ofInt b < Int32.ofInt a)) pc off st = _
  rw [hv]
  unfold sp_br
  rw [ht]
  rfl
theorem ga_zgtN {a : Int} {u : Unit} (d : sq_in y pc (.ifCond .gt off) 3) (e : sw_r1 a = some u) (hb : ¬ 0 < a) (ht : sp_tg pc off = some t) (kk : sq_go G y (pc + 3) L st M Q) : sq_go G y pc L (.int (Int32.ofInt a) :: st) M Q := by
  have hv : decide (0 < Int32.ofInt a) = false := decide_eq_false (fun h => hb ((sw_lt2 (sw_r10 e)).2.2.2.1.mp h))
  refine go_j d (pc' := (pc + 3)) (st' := st) ?_ kk
  show sp_br (decide (0 < Int32.ofInt a)) pc off st = _
  rw [hv]
  unfold sp_br
  rw [ht]
  rfl
theorem ga_zgtY {a : Int} {u : Unit} (d : sq_in y pc (.ifCond .gt off) 3) (e : sw_r1 a = some u) (hb : 0 < a) (ht : sp_tg pc off = some t) (kk : sq_go G y t L st M Q) : sq_go G y pc L (.int (Int32.ofInt a) :: st) M Q := by
  have hv : decide (0 < Int32.ofInt a) = true := decide_eq_true ((sw_lt2 (sw_r10 e)).2.2.2.1.mpr hb)
  refine go_j d (pc' := t) (st' := st) ?_ kk
  show sp_br (decide (0 < Int32.ofInt a)) pc off st = _
  rw [hv]
  unfold sp_br
  rw [ht]
  rfl
theorem ga_cleN {a b : Int} {u : Unit} (d : sq_in y pc (.if_icmp .le off) 3) (e : sw_r2 a b = some u) (hb : ¬ b < a) (ht : sp_tg pc off = some t) (kk : sq_go G y t L st M Q) : sq_go G y pc L (.int (Int32.ofInt b) :: .int (Int32.ofInt a) :: st) M Q := by
  have hv : decide (Int32.ofInt a ≤ Int32.ofInt b) = true := decide_eq_true ((sw_lt2 e).2.2.1.mpr (Int.not_lt.mp hb))
  refine go_j d (pc' := t) (st' := st) ?_ kk
  show sp_br (decide (Int32.ofInt a ≤ Int32.ofInt b)) pc off st = _
  rw [hv]
  unfold sp_br
  rw [ht]
  rfl
theorem ga_cleY {a b : Int} {u : Unit} (d : sq_in y pc (.if_icmp .le off) 3) (e : sw_r2 a b = some u) (hb : b < a) (ht : sp_tg pc off = some t) (kk : sq_go G y (pc + 3) L st M Q) : sq_go G y pc L (.int (Int32.ofInt b) :: .int (Int32.ofInt a) :: st) M Q := by
  have hv : decide (Int32.ofInt a ≤ Int32.ofInt b) = false := decide_eq_false (fun h => (Int.not_le.mpr hb) ((sw_lt2 e).2.2.1.mp h))
  refine go_j d (pc' := (pc + 3)) (st' := st) ?_ kk
  show sp_br (decide (Int32.ofInt a ≤ Int32.ofInt b)) pc off st = _
  rw [hv]
  unfold sp_br
  rw [ht]
  rfl
theorem ga_zleN {a : Int} {u : Unit} (d : sq_in y pc (.ifCond .le off) 3) (e : sw_r1 a = some u) (hb : ¬ 0 < a) (ht : sp_tg pc off = some t) (kk : sq_go G y t L st M Q) : sq_go G y pc L (.int (Int32.ofInt a) :: st) M Q := by
  have hv : decide (Int32.ofInt a ≤ 0) = true := decide_eq_true ((sw_lt2 (sw_r10 e)).2.2.1.mpr (Int.not_lt.mp hb))
  refine go_j d (pc' := t) (st' := st) ?_ kk
  show sp_br (decide (Int32.ofInt a ≤ 0)) pc off st = _
  rw [hv]
  unfold sp_br
  rw [ht]
  rfl
theorem ga_zleY {a : Int} {u : Unit} (d : sq_in y pc (.ifCond .le off) 3) (e : sw_r1 a = some u) (hb : 0 < a) (ht : sp_tg pc off = some t) (kk : sq_go G y (pc + 3) L st M Q) : sq_go G y pc L (.int (Int32.ofInt a) :: st) M Q := by
  have hv : decide (Int32.ofInt a ≤ 0) = false := decide_eq_false (fun h => (Int.not_le.mpr hb) ((sw_lt2 (sw_r10 e)).2.2.1.mp h))
  refine go_j d (pc' := (pc + 3)) (st' := st) ?_ kk
  show sp_br (decide (Int32.ofInt a ≤ 0)) pc off st = _
  rw [hv]
  unfold sp_br
  rw [ht]
  rfl
theorem sw_bl2 {a b : Int} {u : Unit} (e : sw_l2 a b = some u) : lg_cmp (Int64.ofInt a) (Int64.ofInt b) = Int32.ofInt (if b < a then 1 else if a = b then 0 else -1) := by
  obtain ⟨⟨h1, h2⟩, -⟩ := sw_gd e
  unfold lg_cmp
  have h3 : (Int64.ofInt a > Int64.ofInt b) ↔ b < a := by rw [gt_iff_lt, Int64.lt_iff_toInt_lt, sw_rl h1, sw_rl h2]
  have h4 : (Int64.ofInt a = Int64.ofInt b) ↔ a = b := by rw [← Int64.toInt_inj, sw_rl h1, sw_rl h2]
  by_cases h5 : b < a
  · rw [if_pos (h3.mpr h5), if_pos h5]; rfl
  · rw [if_neg (fun h => h5 (h3.mp h)), if_neg h5]
    by_cases h6 : a = b
    · rw [if_pos (h4.mpr h6), if_pos h6]; rfl
    · rw [if_neg (fun h => h6 (h4.mp h)), if_neg h6]; rfl
def sw_lc (a b : Int) : Int := if a = b then 0 else 1
/-- lcmp, then a jump if they differ: two words alone, or any two numbers whose words are compared -/
theorem ga_lcmp {a b : Int} {u : Unit} (d : sq_in y pc .lcmp 1) (e : sw_l2 a b = some u) (kk : sq_go G y (pc + 1) L (.int (Int32.ofInt (if b < a then 1 else if a = b then 0 else -1)) :: st) M Q) : sq_go G y pc L (.long (Int64.ofInt b) :: .long (Int64.ofInt a) :: st) M Q := go_s d (st' := .int (lg_cmp (Int64.ofInt a) (Int64.ofInt b)) :: st) rfl (by rw [sw_bl2 e]; exact kk)
/-- less is known of the locals -/
def sw_le : sp_L → sp_L → Prop
  | [], [] => True
  | none :: l, _ :: l' => sw_le l l'
  | some v :: l, x :: l' => x = some v ∧ sw_le l l'
  | _, _ => False
end SWB
