/-! ===== the methods as functions over tables ===== -/
theorem qc145 : sq_c 145 = 6 := by decide +kernel
theorem qk145_103 : sw_ck 145 103 97 0 1 6 2 = true := by decide +kernel
theorem qr145 : sq_ret 145 = some .int := by decide +kernel
-- 145: SewingPilesModel.undo()I
def w145_30 : Nat → sw_T → Int → Option (sw_T)
  | 0, _, _ => none
  | m + 1, T, l1 =>
    (sw_r2 l1 543).bind fun _u =>
    if l1 < 543 then
      (sw_ld T 224 3258 ((543 * (T 221 4)) + l1)).bind fun v12 =>
      (sw_st T 222 543 l1 v12).bind fun T14 =>
      w145_30 m T14 (l1 + 1)
    else
      some (T)
theorem B145_30 {G : sp_G} {z n : Nat} (hn : 228 ≤ n) {K : sw_K} {res : sw_T} {Q : sp_R → sp_M → Prop} (kk : sq_go G 145 64 [some (.ref (z + 221)), none] [] (sw_M z n sw_Ft res K) Q) : ∀ (m : Nat) (T : sw_T) (l1 : Int), w145_30  m T l1 = some res → sq_go G 145 30 [some (.ref (z + 221)), some (.int (Int32.ofInt l1))] [] (sw_M z n sw_Ft T K) Q := by
  intro m
  induction m with
  | zero => intro T l1 h; cases h
  | succ m ih =>
    intro T l1 h
    rw [w145_30] at h
    refine go_l qd145_30 rfl ?_
    refine ga_k16 qd145_31 rfl ?_
    obtain ⟨_u, e9, h⟩ := sw_bind h
    by_cases hb10 : l1 < 543
    · replace h := sw_ifY hb10 h
      refine ga_cgeY (t := 64) qd145_34 e9 hb10 rfl ?_
      refine go_l qd145_37 rfl ?_
      refine ga_gf (v := .ref (z + 222)) qd145_38 qc145 qf6_7 (sw_sl hn (by decide)) rfl rfl ?_
      refine go_l qd145_41 rfl ?_
      refine go_l qd145_42 rfl ?_
      refine ga_gf (v := .ref (z + 224)) qd145_43 qc145 qf6_16 (sw_sl hn (by decide)) rfl rfl ?_
      refine ga_k16 qd145_46 rfl ?_
      refine go_l qd145_49 rfl ?_
      refine ga_gf (v := .int (Int32.ofInt (T 221 4))) qd145_50 qc145 qf6_40 (sw_sl hn (by decide)) rfl rfl ?_
      refine ga_imul qd145_53 ?_
      refine go_l qd145_54 rfl ?_
      refine ga_iadd qd145_55 ?_
      obtain ⟨v12, e11, h⟩ := sw_bind h
      refine ga_iald qd145_56 (sw_sl hn (by decide)) e11 ?_
      obtain ⟨T14, e13, h⟩ := sw_bind h
      refine ga_iast qd145_57 (sw_sl hn (by decide)) e13 ?_
      refine ga_ii (L' := [some (.ref (z + 221)), some (.int (Int32.ofInt (l1 + 1)))]) qd145_58 rfl rfl ?_
      refine ga_jp (t := 30) qd145_61 rfl ?_
      exact sq_weak (L := [some (.ref (z + 221)), some (.int (Int32.ofInt (l1 + 1)))]) ⟨rfl, rfl, trivial⟩ (ih _ _ h)
    · replace h := sw_ifN hb10 h
      refine ga_cgeN (t := 64) qd145_34 e9 hb10 rfl ?_
      rw [← sw_sj h] at kk
      exact sq_weak (L := [some (.ref (z + 221)), none]) ⟨rfl, trivial⟩ kk
def w145 (T : sw_T) : Option (Int × sw_T) :=
  (sw_pf T 221 0 0).bind fun T1 =>
  (sw_r1 (T1 221 4)).bind fun _u =>
  if (T1 221 4) = 0 then
    (w97 T1 1).bind fun r6 =>
    some ((r6.1, r6.2))
  else
    (sw_pf T1 221 4 ((T1 221 4) - 1)).bind fun T7 =>
    (w145_30 sw_N T7 0).bind fun x15 =>
    some (((x15 221 4), x15))
theorem A145 {G : sp_G} {z n : Nat} (hn : 228 ≤ n) {T : sw_T} {K : sw_K} {res : Int × sw_T} {Q : sp_R → sp_M → Prop} (h : w145 T = some res) (kk : Q (.inl (some (.int (Int32.ofInt res.1)))) (sw_M z n sw_Ft res.2 K)) : sq_go G 145 0 [some (.ref (z + 221)), none] [] (sw_M z n sw_Ft T K) Q := by
  unfold w145 at h
  refine go_l qd145_0 rfl ?_
  refine go_s qd145_1 rfl ?_
  obtain ⟨T1, e2, h⟩ := sw_bind h
  refine ga_pfi qd145_2 qc145 qg6_28 (sw_sl hn (by decide)) rfl qi6_0 e2 ?_
  refine go_l qd145_5 rfl ?_
  refine ga_gf (v := .int (Int32.ofInt (T1 221 4))) qd145_6 qc145 qf6_40 (sw_sl hn (by decide)) rfl rfl ?_
  obtain ⟨_u, e3, h⟩ := sw_bind h
  by_cases hb4 : (T1 221 4) = 0
  · replace h := sw_ifY hb4 h
    refine ga_zneY (t := 18) qd145_9 e3 hb4 rfl ?_
    refine go_l qd145_12 rfl ?_
    refine go_s qd145_13 rfl ?_
    obtain ⟨r6, e5, h⟩ := sw_bind h
    refine ga_kv (a := 221) (as := [.int (Int32.ofInt 1)]) (rest := []) qd145_14 qk145_103 (sw_sl hn (by decide)) rfl rfl rfl (Nat.le_of_ble_eq_true rfl) (Nat.le_of_ble_eq_true rfl) rfl (A97 hn e5 (sw_bkv ?_))
    rw [← sw_sj h] at kk
    exact ga_ri qd145_17 qr145 kk
  · replace h := sw_ifN hb4 h
    refine ga_zneN (t := 18) qd145_9 e3 hb4 rfl ?_
    refine go_l qd145_18 rfl ?_
    refine go_s qd145_19 rfl ?_
    refine ga_gf (v := .int (Int32.ofInt (T1 221 4))) qd145_20 qc145 qf6_40 (sw_sl hn (by decide)) rfl rfl ?_
    refine go_s qd145_23 rfl ?_
    refine ga_isub qd145_24 ?_
    obtain ⟨T7, e8, h⟩ := sw_bind h
    refine ga_pfi qd145_25 qc145 qg6_40 (sw_sl hn (by decide)) rfl qi6_4 e8 ?_
    refine go_s qd145_28 rfl ?_
    refine go_l (L' := [some (.ref (z + 221)), some (.int (Int32.ofInt 0))]) (st' := []) qd145_29 rfl ?_
    obtain ⟨x15, e16, h⟩ := sw_bind h
    refine sq_weak (L := [some (.ref (z + 221)), some (.int (Int32.ofInt 0))]) ⟨rfl, rfl, trivial⟩ (B145_30 hn (res := x15) ?_ _ _ _ e16)
    refine go_l qd145_64 rfl ?_
    refine ga_gf (v := .int (Int32.ofInt (x15 221 4))) qd145_65 qc145 qf6_40 (sw_sl hn (by decide)) rfl rfl ?_
    rw [← sw_sj h] at kk
    exact ga_ri qd145_68 qr145 kk
theorem qk146_43 : sw_ck 146 43 98 0 2 6 3 = true := by decide +kernel
theorem qk146_57 : sw_ck 146 57 102 0 2 6 3 = true := by decide +kernel
theorem qk146_63 : sw_ck 146 63 101 0 2 6 3 = true := by decide +kernel
theorem qr146 : sq_ret 146 = some .int := by decide +kernel
-- 146: SewingPilesModel.load(I)I
def w146_29 (T : sw_T) (l1 : Int) : Nat → Int → Int → Option (Int)
  | 0, _, _ => none
  | m + 1, l2, l3 =>
    (w98 T l1 8).bind fun r10 =>
    (sw_r2 l3 r10).bind fun _u =>
    if l3 < r10 then
      (w101 T l1 l3).bind fun r14 =>
      (w102 T r14 0).bind fun r16 =>
      w146_29 T l1 m (l2 + r16) (l3 + 1)
    else
      some (l2)
theorem B146_29 {G : sp_G} {z n : Nat} (hn : 228 ≤ n) {T : sw_T} {l1 : Int} {K : sw_K} {res : Int} {Q : sp_R → sp_M → Prop} (kk : sq_go G 146 60 [none, none, some (.int (Int32.ofInt res)), none] [] (sw_M z n sw_Ft T K) Q) : ∀ (m : Nat) (l2 : Int) (l3 : Int), w146_29 T l1 m l2 l3 = some res → sq_go G 146 29 [some (.ref (z + 221)), some (.int (Int32.ofInt l1)), some (.int (Int32.ofInt l2)), some (.int (Int32.ofInt l3))] [] (sw_M z n sw_Ft T K) Q := by
  intro m
  induction m with
  | zero => intro l2 l3 h; cases h
  | succ m ih =>
    intro l2 l3 h
    rw [w146_29] at h
    refine go_l qd146_29 rfl ?_
    refine go_l qd146_30 rfl ?_
    refine go_l qd146_31 rfl ?_
    refine ga_k8 qd146_32 rfl ?_
    obtain ⟨r10, e9, h⟩ := sw_bind h
    refine ga_kv (a := 221) (as := [.int (Int32.ofInt l1), .int (Int32.ofInt 8)]) (rest := [.int (Int32.ofInt l3)]) qd146_34 qk146_43 (sw_sl hn (by decide)) rfl rfl rfl (Nat.le_of_ble_eq_true rfl) (Nat.le_of_ble_eq_true rfl) rfl (A98 hn e9 (sw_bkv ?_))
    obtain ⟨_u, e11, h⟩ := sw_bind h
    by_cases hb12 : l3 < r10
    · replace h := sw_ifY hb12 h
      refine ga_cgeY (t := 60) qd146_37 e11 hb12 rfl ?_
      refine go_l qd146_40 rfl ?_
      refine go_l qd146_41 rfl ?_
      refine go_l qd146_42 rfl ?_
      refine go_l qd146_43 rfl ?_
      refine go_l qd146_44 rfl ?_
      obtain ⟨r14, e13, h⟩ := sw_bind h
      refine ga_kv (a := 221) (as := [.int (Int32.ofInt l1), .int (Int32.ofInt l3)]) (rest := [.ref (z + 221), .int (Int32.ofInt l2)]) qd146_45 qk146_63 (sw_sl hn (by decide)) rfl rfl rfl (Nat.le_of_ble_eq_true rfl) (Nat.le_of_ble_eq_true rfl) rfl (A101 hn e13 (sw_bkv ?_))
      refine go_s qd146_48 rfl ?_
      obtain ⟨r16, e15, h⟩ := sw_bind h
      refine ga_kv (a := 221) (as := [.int (Int32.ofInt r14), .int (Int32.ofInt 0)]) (rest := [.int (Int32.ofInt l2)]) qd146_49 qk146_57 (sw_sl hn (by decide)) rfl rfl rfl (Nat.le_of_ble_eq_true rfl) (Nat.le_of_ble_eq_true rfl) rfl (A102 hn e15 (sw_bkv ?_))
      refine ga_iadd qd146_52 ?_
      refine go_l (L' := [some (.ref (z + 221)), some (.int (Int32.ofInt l1)), some (.int (Int32.ofInt (l2 + r16))), some (.int (Int32.ofInt l3))]) (st' := []) qd146_53 rfl ?_
      refine ga_ii (L' := [some (.ref (z + 221)), some (.int (Int32.ofInt l1)), some (.int (Int32.ofInt (l2 + r16))), some (.int (Int32.ofInt (l3 + 1)))]) qd146_54 rfl rfl ?_
      refine ga_jp (t := 29) qd146_57 rfl ?_
      exact sq_weak (L := [some (.ref (z + 221)), some (.int (Int32.ofInt l1)), some (.int (Int32.ofInt (l2 + r16))), some (.int (Int32.ofInt (l3 + 1)))]) ⟨rfl, rfl, rfl, rfl, trivial⟩ (ih _ _ h)
    · replace h := sw_ifN hb12 h
      refine ga_cgeN (t := 60) qd146_37 e11 hb12 rfl ?_
      rw [← sw_sj h] at kk
      exact sq_weak (L := [none, none, some (.int (Int32.ofInt l2)), none]) ⟨rfl, trivial⟩ kk
def w146_26 (T : sw_T) (l1 : Int) (s0 : Int) : Option (Int) :=
  (w146_29 T l1 sw_N s0 0).bind fun x17 =>
  some (x17)
theorem B146_26 {G : sp_G} {z n : Nat} (hn : 228 ≤ n) {T : sw_T} {K : sw_K} {l1 : Int} {s0 : Int} {res : Int} {Q : sp_R → sp_M → Prop} (h : w146_26 T l1 s0 = some res) (kk : Q (.inl (some (.int (Int32.ofInt res)))) (sw_M z n sw_Ft T K)) : sq_go G 146 26 [some (.ref (z + 221)), some (.int (Int32.ofInt l1)), none, none] [.int (Int32.ofInt s0)] (sw_M z n sw_Ft T K) Q := by
  unfold w146_26 at h
  refine go_l (L' := [some (.ref (z + 221)), some (.int (Int32.ofInt l1)), some (.int (Int32.ofInt s0)), none]) (st' := []) qd146_26 rfl ?_
  refine go_s qd146_27 rfl ?_
  refine go_l (L' := [some (.ref (z + 221)), some (.int (Int32.ofInt l1)), some (.int (Int32.ofInt s0)), some (.int (Int32.ofInt 0))]) (st' := []) qd146_28 rfl ?_
  obtain ⟨x17, e18, h⟩ := sw_bind h
  refine sq_weak (L := [some (.ref (z + 221)), some (.int (Int32.ofInt l1)), some (.int (Int32.ofInt s0)), some (.int (Int32.ofInt 0))]) ⟨rfl, rfl, rfl, rfl, trivial⟩ (B146_29 hn (res := x17) ?_ _ _ _ e18)
  refine go_l qd146_60 rfl ?_
  rw [← sw_sj h] at kk
  exact ga_ri qd146_61 qr146 kk
def w146 (T : sw_T) (p1 : Int) : Option (Int) :=
  (w98 T p1 1).bind fun r2 =>
  (sw_r1 r2).bind fun _u =>
  if 0 < r2 then
    (w98 T p1 1).bind fun r6 =>
    (w102 T (r6 - 1) 0).bind fun r8 =>
    w146_26 T p1 r8
  else
    w146_26 T p1 0
theorem A146 {G : sp_G} {z n : Nat} (hn : 228 ≤ n) {T : sw_T} {K : sw_K} {p1 : Int} {res : Int} {Q : sp_R → sp_M → Prop} (h : w146 T p1 = some res) (kk : Q (.inl (some (.int (Int32.ofInt res)))) (sw_M z n sw_Ft T K)) : sq_go G 146 0 [some (.ref (z + 221)), some (.int (Int32.ofInt p1)), none, none] [] (sw_M z n sw_Ft T K) Q := by
  unfold w146 at h
  refine go_l qd146_0 rfl ?_
  refine go_l qd146_1 rfl ?_
  refine go_s qd146_2 rfl ?_
  obtain ⟨r2, e1, h⟩ := sw_bind h
  refine ga_kv (a := 221) (as := [.int (Int32.ofInt p1), .int (Int32.ofInt 1)]) (rest := []) qd146_3 qk146_43 (sw_sl hn (by decide)) rfl rfl rfl (Nat.le_of_ble_eq_true rfl) (Nat.le_of_ble_eq_true rfl) rfl (A98 hn e1 (sw_bkv ?_))
  obtain ⟨_u, e3, h⟩ := sw_bind h
  by_cases hb4 : 0 < r2
  · replace h := sw_ifY hb4 h
    refine ga_zleY (t := 25) qd146_6 e3 hb4 rfl ?_
    refine go_l qd146_9 rfl ?_
    refine go_l qd146_10 rfl ?_
    refine go_l qd146_11 rfl ?_
    refine go_s qd146_12 rfl ?_
    obtain ⟨r6, e5, h⟩ := sw_bind h
    refine ga_kv (a := 221) (as := [.int (Int32.ofInt p1), .int (Int32.ofInt 1)]) (rest := [.ref (z + 221)]) qd146_13 qk146_43 (sw_sl hn (by decide)) rfl rfl rfl (Nat.le_of_ble_eq_true rfl) (Nat.le_of_ble_eq_true rfl) rfl (A98 hn e5 (sw_bkv ?_))
    refine go_s qd146_16 rfl ?_
    refine ga_isub qd146_17 ?_
    refine go_s qd146_18 rfl ?_
    obtain ⟨r8, e7, h⟩ := sw_bind h
    refine ga_kv (a := 221) (as := [.int (Int32.ofInt (r6 - 1)), .int (Int32.ofInt 0)]) (rest := []) qd146_19 qk146_57 (sw_sl hn (by decide)) rfl rfl rfl (Nat.le_of_ble_eq_true rfl) (Nat.le_of_ble_eq_true rfl) rfl (A102 hn e7 (sw_bkv ?_))
    refine ga_jp (t := 26) qd146_22 rfl ?_
    exact sq_weak (L := [some (.ref (z + 221)), some (.int (Int32.ofInt p1)), none, none]) ⟨rfl, rfl, trivial⟩ (B146_26 hn h kk)
  · replace h := sw_ifN hb4 h
    refine ga_zleN (t := 25) qd146_6 e3 hb4 rfl ?_
    refine go_s qd146_25 rfl ?_
    exact sq_weak (L := [some (.ref (z + 221)), some (.int (Int32.ofInt p1)), none, none]) ⟨rfl, rfl, trivial⟩ (B146_26 hn h kk)
theorem qk147_43 : sw_ck 147 43 98 0 2 6 3 = true := by decide +kernel
theorem qr147 : sq_ret 147 = some .int := by decide +kernel
theorem qk147_162 : sw_ck 147 162 146 0 1 6 4 = true := by decide +kernel
-- 147: SewingPilesModel.tellsWho(II)I
def w147 (T : sw_T) (p1 : Int) (p2 : Int) : Option (Int) :=
  (sw_r1 p2).bind fun _u =>
  if p2 = 0 then
    (w98 T p1 0).bind fun r4 =>
    some (r4)
  else
  if p2 = 1 then
    (w98 T p1 8).bind fun r7 =>
    some (r7)
  else
  if p2 = 2 then
    (w98 T p1 1).bind fun r10 =>
    some ((r10 - 1))
  else
  if p2 = 9 then
    (w146 T p1).bind fun r13 =>
    some (r13)
  else
    (w98 T p1 (p2 - 1)).bind fun r15 =>
    some (r15)
theorem A147 {G : sp_G} {z n : Nat} (hn : 228 ≤ n) {T : sw_T} {K : sw_K} {p1 : Int} {p2 : Int} {res : Int} {Q : sp_R → sp_M → Prop} (h : w147 T p1 p2 = some res) (kk : Q (.inl (some (.int (Int32.ofInt res)))) (sw_M z n sw_Ft T K)) : sq_go G 147 0 [some (.ref (z + 221)), some (.int (Int32.ofInt p1)), some (.int (Int32.ofInt p2))] [] (sw_M z n sw_Ft T K) Q := by
  unfold w147 at h
  refine go_l qd147_0 rfl ?_
  obtain ⟨_u, e1, h⟩ := sw_bind h
  by_cases hb2 : p2 = 0
  · replace h := sw_ifY hb2 h
    refine ga_sw (t := 56) qd147_1 rfl hb2 rfl ?_
    refine go_l qd147_56 rfl ?_
    refine go_l qd147_57 rfl ?_
    refine go_s qd147_58 rfl ?_
    obtain ⟨r4, e3, h⟩ := sw_bind h
    refine ga_kv (a := 221) (as := [.int (Int32.ofInt p1), .int (Int32.ofInt 0)]) (rest := []) qd147_59 qk147_43 (sw_sl hn (by decide)) rfl rfl rfl (Nat.le_of_ble_eq_true rfl) (Nat.le_of_ble_eq_true rfl) rfl (A98 hn e3 (sw_bkv ?_))
    rw [← sw_sj h] at kk
    exact ga_ri qd147_62 qr147 kk
  · replace h := sw_ifN hb2 h
    by_cases hb5 : p2 = 1
    · replace h := sw_ifY hb5 h
      refine ga_sw (t := 63) qd147_1 rfl hb5 rfl ?_
      refine go_l qd147_63 rfl ?_
      refine go_l qd147_64 rfl ?_
      refine ga_k8 qd147_65 rfl ?_
      obtain ⟨r7, e6, h⟩ := sw_bind h
      refine ga_kv (a := 221) (as := [.int (Int32.ofInt p1), .int (Int32.ofInt 8)]) (rest := []) qd147_67 qk147_43 (sw_sl hn (by decide)) rfl rfl rfl (Nat.le_of_ble_eq_true rfl) (Nat.le_of_ble_eq_true rfl) rfl (A98 hn e6 (sw_bkv ?_))
      rw [← sw_sj h] at kk
      exact ga_ri qd147_70 qr147 kk
    · replace h := sw_ifN hb5 h
      by_cases hb8 : p2 = 2
      · replace h := sw_ifY hb8 h
        refine ga_sw (t := 71) qd147_1 rfl hb8 rfl ?_
        refine go_l qd147_71 rfl ?_
        refine go_l qd147_72 rfl ?_
        refine go_s qd147_73 rfl ?_
        obtain ⟨r10, e9, h⟩ := sw_bind h
        refine ga_kv (a := 221) (as := [.int (Int32.ofInt p1), .int (Int32.ofInt 1)]) (rest := []) qd147_74 qk147_43 (sw_sl hn (by decide)) rfl rfl rfl (Nat.le_of_ble_eq_true rfl) (Nat.le_of_ble_eq_true rfl) rfl (A98 hn e9 (sw_bkv ?_))
        refine go_s qd147_77 rfl ?_
        refine ga_isub qd147_78 ?_
        rw [← sw_sj h] at kk
        exact ga_ri qd147_79 qr147 kk
      · replace h := sw_ifN hb8 h
        by_cases hb11 : p2 = 9
        · replace h := sw_ifY hb11 h
          refine ga_sw (t := 80) qd147_1 rfl hb11 rfl ?_
          refine go_l qd147_80 rfl ?_
          refine go_l qd147_81 rfl ?_
          obtain ⟨r13, e12, h⟩ := sw_bind h
          refine ga_kv (a := 221) (as := [.int (Int32.ofInt p1)]) (rest := []) qd147_82 qk147_162 (sw_sl hn (by decide)) rfl rfl rfl (Nat.le_of_ble_eq_true rfl) (Nat.le_of_ble_eq_true rfl) rfl (A146 hn e12 (sw_bkv ?_))
          rw [← sw_sj h] at kk
          exact ga_ri qd147_85 qr147 kk
        · replace h := sw_ifN hb11 h
          by_cases hb16 : p2 = 3
          · refine ga_sw (t := 86) qd147_1 rfl hb16 rfl ?_
            refine go_l qd147_86 rfl ?_
            refine go_l qd147_87 rfl ?_
            refine go_l qd147_88 rfl ?_
            refine go_s qd147_89 rfl ?_
            refine ga_isub qd147_90 ?_
            obtain ⟨r15, e14, h⟩ := sw_bind h
            refine ga_kv (a := 221) (as := [.int (Int32.ofInt p1), .int (Int32.ofInt (p2 - 1))]) (rest := []) qd147_91 qk147_43 (sw_sl hn (by decide)) rfl rfl rfl (Nat.le_of_ble_eq_true rfl) (Nat.le_of_ble_eq_true rfl) rfl (A98 hn e14 (sw_bkv ?_))
            rw [← sw_sj h] at kk
            exact ga_ri qd147_94 qr147 kk
          · skip
            by_cases hb17 : p2 = 4
            · refine ga_sw (t := 86) qd147_1 rfl hb17 rfl ?_
              refine go_l qd147_86 rfl ?_
              refine go_l qd147_87 rfl ?_
              refine go_l qd147_88 rfl ?_
              refine go_s qd147_89 rfl ?_
              refine ga_isub qd147_90 ?_
              obtain ⟨r15, e14, h⟩ := sw_bind h
              refine ga_kv (a := 221) (as := [.int (Int32.ofInt p1), .int (Int32.ofInt (p2 - 1))]) (rest := []) qd147_91 qk147_43 (sw_sl hn (by decide)) rfl rfl rfl (Nat.le_of_ble_eq_true rfl) (Nat.le_of_ble_eq_true rfl) rfl (A98 hn e14 (sw_bkv ?_))
              rw [← sw_sj h] at kk
              exact ga_ri qd147_94 qr147 kk
            · skip
              by_cases hb18 : p2 = 5
              · refine ga_sw (t := 86) qd147_1 rfl hb18 rfl ?_
                refine go_l qd147_86 rfl ?_
                refine go_l qd147_87 rfl ?_
                refine go_l qd147_88 rfl ?_
                refine go_s qd147_89 rfl ?_
                refine ga_isub qd147_90 ?_
                obtain ⟨r15, e14, h⟩ := sw_bind h
                refine ga_kv (a := 221) (as := [.int (Int32.ofInt p1), .int (Int32.ofInt (p2 - 1))]) (rest := []) qd147_91 qk147_43 (sw_sl hn (by decide)) rfl rfl rfl (Nat.le_of_ble_eq_true rfl) (Nat.le_of_ble_eq_true rfl) rfl (A98 hn e14 (sw_bkv ?_))
                rw [← sw_sj h] at kk
                exact ga_ri qd147_94 qr147 kk
              · skip
                by_cases hb19 : p2 = 6
                · refine ga_sw (t := 86) qd147_1 rfl hb19 rfl ?_
                  refine go_l qd147_86 rfl ?_
                  refine go_l qd147_87 rfl ?_
                  refine go_l qd147_88 rfl ?_
                  refine go_s qd147_89 rfl ?_
                  refine ga_isub qd147_90 ?_
                  obtain ⟨r15, e14, h⟩ := sw_bind h
                  refine ga_kv (a := 221) (as := [.int (Int32.ofInt p1), .int (Int32.ofInt (p2 - 1))]) (rest := []) qd147_91 qk147_43 (sw_sl hn (by decide)) rfl rfl rfl (Nat.le_of_ble_eq_true rfl) (Nat.le_of_ble_eq_true rfl) rfl (A98 hn e14 (sw_bkv ?_))
                  rw [← sw_sj h] at kk
                  exact ga_ri qd147_94 qr147 kk
                · skip
                  by_cases hb20 : p2 = 7
                  · refine ga_sw (t := 86) qd147_1 rfl hb20 rfl ?_
                    refine go_l qd147_86 rfl ?_
                    refine go_l qd147_87 rfl ?_
                    refine go_l qd147_88 rfl ?_
                    refine go_s qd147_89 rfl ?_
                    refine ga_isub qd147_90 ?_
                    obtain ⟨r15, e14, h⟩ := sw_bind h
                    refine ga_kv (a := 221) (as := [.int (Int32.ofInt p1), .int (Int32.ofInt (p2 - 1))]) (rest := []) qd147_91 qk147_43 (sw_sl hn (by decide)) rfl rfl rfl (Nat.le_of_ble_eq_true rfl) (Nat.le_of_ble_eq_true rfl) rfl (A98 hn e14 (sw_bkv ?_))
                    rw [← sw_sj h] at kk
                    exact ga_ri qd147_94 qr147 kk
                  · skip
                    by_cases hb21 : p2 = 8
                    · refine ga_sw (t := 86) qd147_1 rfl hb21 rfl ?_
                      refine go_l qd147_86 rfl ?_
                      refine go_l qd147_87 rfl ?_
                      refine go_l qd147_88 rfl ?_
                      refine go_s qd147_89 rfl ?_
                      refine ga_isub qd147_90 ?_
                      obtain ⟨r15, e14, h⟩ := sw_bind h
                      refine ga_kv (a := 221) (as := [.int (Int32.ofInt p1), .int (Int32.ofInt (p2 - 1))]) (rest := []) qd147_91 qk147_43 (sw_sl hn (by decide)) rfl rfl rfl (Nat.le_of_ble_eq_true rfl) (Nat.le_of_ble_eq_true rfl) rfl (A98 hn e14 (sw_bkv ?_))
                      rw [← sw_sj h] at kk
                      exact ga_ri qd147_94 qr147 kk
                    · skip
                      refine ga_tsd (t := 86) qd147_1 e1 (by omega) rfl ?_
                      refine go_l qd147_86 rfl ?_
                      refine go_l qd147_87 rfl ?_
                      refine go_l qd147_88 rfl ?_
                      refine go_s qd147_89 rfl ?_
                      refine ga_isub qd147_90 ?_
                      obtain ⟨r15, e14, h⟩ := sw_bind h
                      refine ga_kv (a := 221) (as := [.int (Int32.ofInt p1), .int (Int32.ofInt (p2 - 1))]) (rest := []) qd147_91 qk147_43 (sw_sl hn (by decide)) rfl rfl rfl (Nat.le_of_ble_eq_true rfl) (Nat.le_of_ble_eq_true rfl) rfl (A98 hn e14 (sw_bkv ?_))
                      rw [← sw_sj h] at kk
                      exact ga_ri qd147_94 qr147 kk
theorem qc148 : sq_c 148 = 6 := by decide +kernel
theorem qk148_112 : sw_ck 148 112 104 0 1 6 2 = true := by decide +kernel
theorem qk148_103 : sw_ck 148 103 97 0 1 6 2 = true := by decide +kernel
theorem qr148 : sq_ret 148 = some .int := by decide +kernel
theorem qk148_36 : sw_ck 148 36 96 1 3 6 3 = true := by decide +kernel
theorem qk148_165 : sw_ck 148 165 147 0 2 6 3 = true := by decide +kernel
-- 148: SewingPilesModel.seamstress(II)I
def w148 (T : sw_T) (p1 : Int) (p2 : Int) : Option (Int × sw_T) :=
  (sw_pf T 221 0 0).bind fun T1 =>
  (w104 T1 p1).bind fun r4 =>
  (sw_r1 r4).bind fun _u =>
  if r4 = 0 then
    (w97 T1 1).bind fun r8 =>
    some ((r8.1, r8.2))
  else
    (w96 T1 p2 0 9).bind fun r10 =>
    (sw_r1 r10).bind fun _u =>
    if r10 = 0 then
      (w97 T1 2).bind fun r14 =>
      some ((r14.1, r14.2))
    else
      (w147 T1 p1 p2).bind fun r16 =>
      some ((r16, T1))
theorem A148 {G : sp_G} {z n : Nat} (hn : 228 ≤ n) {T : sw_T} {K : sw_K} {p1 : Int} {p2 : Int} {res : Int × sw_T} {Q : sp_R → sp_M → Prop} (h : w148 T p1 p2 = some res) (kk : Q (.inl (some (.int (Int32.ofInt res.1)))) (sw_M z n sw_Ft res.2 K)) : sq_go G 148 0 [some (.ref (z + 221)), some (.int (Int32.ofInt p1)), some (.int (Int32.ofInt p2))] [] (sw_M z n sw_Ft T K) Q := by
  unfold w148 at h
  refine go_l qd148_0 rfl ?_
  refine go_s qd148_1 rfl ?_
  obtain ⟨T1, e2, h⟩ := sw_bind h
  refine ga_pfi qd148_2 qc148 qg6_28 (sw_sl hn (by decide)) rfl qi6_0 e2 ?_
  refine go_l qd148_5 rfl ?_
  refine go_l qd148_6 rfl ?_
  obtain ⟨r4, e3, h⟩ := sw_bind h
  refine ga_kv (a := 221) (as := [.int (Int32.ofInt p1)]) (rest := []) qd148_7 qk148_112 (sw_sl hn (by decide)) rfl rfl rfl (Nat.le_of_ble_eq_true rfl) (Nat.le_of_ble_eq_true rfl) rfl (A104 hn e3 (sw_bkv ?_))
  obtain ⟨_u, e5, h⟩ := sw_bind h
  by_cases hb6 : r4 = 0
  · replace h := sw_ifY hb6 h
    refine ga_zneY (t := 19) qd148_10 e5 hb6 rfl ?_
    refine go_l qd148_13 rfl ?_
    refine go_s qd148_14 rfl ?_
    obtain ⟨r8, e7, h⟩ := sw_bind h
    refine ga_kv (a := 221) (as := [.int (Int32.ofInt 1)]) (rest := []) qd148_15 qk148_103 (sw_sl hn (by decide)) rfl rfl rfl (Nat.le_of_ble_eq_true rfl) (Nat.le_of_ble_eq_true rfl) rfl (A97 hn e7 (sw_bkv ?_))
    rw [← sw_sj h] at kk
    exact ga_ri qd148_18 qr148 kk
  · replace h := sw_ifN hb6 h
    refine ga_zneN (t := 19) qd148_10 e5 hb6 rfl ?_
    refine go_l qd148_19 rfl ?_
    refine go_s qd148_20 rfl ?_
    refine ga_k8 qd148_21 rfl ?_
    obtain ⟨r10, e9, h⟩ := sw_bind h
    refine ga_kS (as := [.int (Int32.ofInt p2), .int (Int32.ofInt 0), .int (Int32.ofInt 9)]) (rest := []) qd148_23 qk148_36 rfl rfl (Nat.le_of_ble_eq_true rfl) (Nat.le_of_ble_eq_true rfl) rfl (A96 hn e9 (sw_bkv ?_))
    obtain ⟨_u, e11, h⟩ := sw_bind h
    by_cases hb12 : r10 = 0
    · replace h := sw_ifY hb12 h
      refine ga_zeqY (t := 38) qd148_26 e11 hb12 rfl ?_
      refine go_l qd148_38 rfl ?_
      refine go_s qd148_39 rfl ?_
      obtain ⟨r14, e13, h⟩ := sw_bind h
      refine ga_kv (a := 221) (as := [.int (Int32.ofInt 2)]) (rest := []) qd148_40 qk148_103 (sw_sl hn (by decide)) rfl rfl rfl (Nat.le_of_ble_eq_true rfl) (Nat.le_of_ble_eq_true rfl) rfl (A97 hn e13 (sw_bkv ?_))
      rw [← sw_sj h] at kk
      exact ga_ri qd148_43 qr148 kk
    · replace h := sw_ifN hb12 h
      refine ga_zeqN (t := 38) qd148_26 e11 hb12 rfl ?_
      refine go_l qd148_29 rfl ?_
      refine go_l qd148_30 rfl ?_
      refine go_l qd148_31 rfl ?_
      obtain ⟨r16, e15, h⟩ := sw_bind h
      refine ga_kv (a := 221) (as := [.int (Int32.ofInt p1), .int (Int32.ofInt p2)]) (rest := []) qd148_32 qk148_165 (sw_sl hn (by decide)) rfl rfl rfl (Nat.le_of_ble_eq_true rfl) (Nat.le_of_ble_eq_true rfl) rfl (A147 hn e15 (sw_bkv ?_))
      refine ga_jp (t := 43) qd148_35 rfl ?_
      rw [← sw_sj h] at kk
      exact ga_ri qd148_43 qr148 kk
theorem qc149 : sq_c 149 = 6 := by decide +kernel
theorem qk149_112 : sw_ck 149 112 104 0 1 6 2 = true := by decide +kernel
theorem qk149_103 : sw_ck 149 103 97 0 1 6 2 = true := by decide +kernel
theorem qr149 : sq_ret 149 = some .int := by decide +kernel
theorem qk149_43 : sw_ck 149 43 98 0 2 6 3 = true := by decide +kernel
theorem qk149_63 : sw_ck 149 63 101 0 2 6 3 = true := by decide +kernel
-- 149: SewingPilesModel.pile(II)I
def w149 (T : sw_T) (p1 : Int) (p2 : Int) : Option (Int × sw_T) :=
  (sw_pf T 221 0 0).bind fun T1 =>
  (w104 T1 p1).bind fun r4 =>
  (sw_r1 r4).bind fun _u =>
  if r4 = 0 then
    (w97 T1 1).bind fun r8 =>
    some ((r8.1, r8.2))
  else
    (sw_r1 p2).bind fun _u =>
    if p2 < 0 then
      (w97 T1 2).bind fun r12 =>
      some ((r12.1, r12.2))
    else
      (w98 T1 p1 8).bind fun r14 =>
      (sw_r2 p2 r14).bind fun _u =>
      if p2 < r14 then
        (w101 T1 p1 p2).bind fun r18 =>
        some ((r18, T1))
      else
        some (((-1), T1))
theorem A149 {G : sp_G} {z n : Nat} (hn : 228 ≤ n) {T : sw_T} {K : sw_K} {p1 : Int} {p2 : Int} {res : Int × sw_T} {Q : sp_R → sp_M → Prop} (h : w149 T p1 p2 = some res) (kk : Q (.inl (some (.int (Int32.ofInt res.1)))) (sw_M z n sw_Ft res.2 K)) : sq_go G 149 0 [some (.ref (z + 221)), some (.int (Int32.ofInt p1)), some (.int (Int32.ofInt p2))] [] (sw_M z n sw_Ft T K) Q := by
  unfold w149 at h
  refine go_l qd149_0 rfl ?_
  refine go_s qd149_1 rfl ?_
  obtain ⟨T1, e2, h⟩ := sw_bind h
  refine ga_pfi qd149_2 qc149 qg6_28 (sw_sl hn (by decide)) rfl qi6_0 e2 ?_
  refine go_l qd149_5 rfl ?_
  refine go_l qd149_6 rfl ?_
  obtain ⟨r4, e3, h⟩ := sw_bind h
  refine ga_kv (a := 221) (as := [.int (Int32.ofInt p1)]) (rest := []) qd149_7 qk149_112 (sw_sl hn (by decide)) rfl rfl rfl (Nat.le_of_ble_eq_true rfl) (Nat.le_of_ble_eq_true rfl) rfl (A104 hn e3 (sw_bkv ?_))
  obtain ⟨_u, e5, h⟩ := sw_bind h
  by_cases hb6 : r4 = 0
  · replace h := sw_ifY hb6 h
    refine ga_zneY (t := 19) qd149_10 e5 hb6 rfl ?_
    refine go_l qd149_13 rfl ?_
    refine go_s qd149_14 rfl ?_
    obtain ⟨r8, e7, h⟩ := sw_bind h
    refine ga_kv (a := 221) (as := [.int (Int32.ofInt 1)]) (rest := []) qd149_15 qk149_103 (sw_sl hn (by decide)) rfl rfl rfl (Nat.le_of_ble_eq_true rfl) (Nat.le_of_ble_eq_true rfl) rfl (A97 hn e7 (sw_bkv ?_))
    rw [← sw_sj h] at kk
    exact ga_ri qd149_18 qr149 kk
  · replace h := sw_ifN hb6 h
    refine ga_zneN (t := 19) qd149_10 e5 hb6 rfl ?_
    refine go_l qd149_19 rfl ?_
    obtain ⟨_u, e9, h⟩ := sw_bind h
    by_cases hb10 : p2 < 0
    · replace h := sw_ifY hb10 h
      refine ga_zgeY (t := 29) qd149_20 e9 hb10 rfl ?_
      refine go_l qd149_23 rfl ?_
      refine go_s qd149_24 rfl ?_
      obtain ⟨r12, e11, h⟩ := sw_bind h
      refine ga_kv (a := 221) (as := [.int (Int32.ofInt 2)]) (rest := []) qd149_25 qk149_103 (sw_sl hn (by decide)) rfl rfl rfl (Nat.le_of_ble_eq_true rfl) (Nat.le_of_ble_eq_true rfl) rfl (A97 hn e11 (sw_bkv ?_))
      rw [← sw_sj h] at kk
      exact ga_ri qd149_28 qr149 kk
    · replace h := sw_ifN hb10 h
      refine ga_zgeN (t := 29) qd149_20 e9 hb10 rfl ?_
      refine go_l qd149_29 rfl ?_
      refine go_l qd149_30 rfl ?_
      refine go_l qd149_31 rfl ?_
      refine ga_k8 qd149_32 rfl ?_
      obtain ⟨r14, e13, h⟩ := sw_bind h
      refine ga_kv (a := 221) (as := [.int (Int32.ofInt p1), .int (Int32.ofInt 8)]) (rest := [.int (Int32.ofInt p2)]) qd149_34 qk149_43 (sw_sl hn (by decide)) rfl rfl rfl (Nat.le_of_ble_eq_true rfl) (Nat.le_of_ble_eq_true rfl) rfl (A98 hn e13 (sw_bkv ?_))
      obtain ⟨_u, e15, h⟩ := sw_bind h
      by_cases hb16 : p2 < r14
      · replace h := sw_ifY hb16 h
        refine ga_cgeY (t := 49) qd149_37 e15 hb16 rfl ?_
        refine go_l qd149_40 rfl ?_
        refine go_l qd149_41 rfl ?_
        refine go_l qd149_42 rfl ?_
        obtain ⟨r18, e17, h⟩ := sw_bind h
        refine ga_kv (a := 221) (as := [.int (Int32.ofInt p1), .int (Int32.ofInt p2)]) (rest := []) qd149_43 qk149_63 (sw_sl hn (by decide)) rfl rfl rfl (Nat.le_of_ble_eq_true rfl) (Nat.le_of_ble_eq_true rfl) rfl (A101 hn e17 (sw_bkv ?_))
        refine ga_jp (t := 50) qd149_46 rfl ?_
        rw [← sw_sj h] at kk
        exact ga_ri qd149_50 qr149 kk
      · replace h := sw_ifN hb16 h
        refine ga_cgeN (t := 49) qd149_37 e15 hb16 rfl ?_
        refine go_s qd149_49 rfl ?_
        rw [← sw_sj h] at kk
        exact ga_ri qd149_50 qr149 kk
theorem qc150 : sq_c 150 = 6 := by decide +kernel
theorem qk150_36 : sw_ck 150 36 96 1 3 6 3 = true := by decide +kernel
theorem qk150_103 : sw_ck 150 103 97 0 1 6 2 = true := by decide +kernel
theorem qr150 : sq_ret 150 = some .int := by decide +kernel
theorem qk150_57 : sw_ck 150 57 102 0 2 6 3 = true := by decide +kernel
-- 150: SewingPilesModel.shirt(II)I
def w150 (T : sw_T) (p1 : Int) (p2 : Int) : Option (Int × sw_T) :=
  (sw_pf T 221 0 0).bind fun T1 =>
  (sw_ld T1 222 543 5).bind fun v4 =>
  (w96 T1 p1 0 (v4 - 1)).bind fun r6 =>
  (sw_r1 r6).bind fun _u =>
  if r6 = 0 then
    (w97 T1 1).bind fun r10 =>
    some ((r10.1, r10.2))
  else
    (w96 T1 p2 0 2).bind fun r12 =>
    (sw_r1 r12).bind fun _u =>
    if r12 = 0 then
      (w97 T1 2).bind fun r16 =>
      some ((r16.1, r16.2))
    else
      (w102 T1 p1 p2).bind fun r18 =>
      some ((r18, T1))
theorem A150 {G : sp_G} {z n : Nat} (hn : 228 ≤ n) {T : sw_T} {K : sw_K} {p1 : Int} {p2 : Int} {res : Int × sw_T} {Q : sp_R → sp_M → Prop} (h : w150 T p1 p2 = some res) (kk : Q (.inl (some (.int (Int32.ofInt res.1)))) (sw_M z n sw_Ft res.2 K)) : sq_go G 150 0 [some (.ref (z + 221)), some (.int (Int32.ofInt p1)), some (.int (Int32.ofInt p2))] [] (sw_M z n sw_Ft T K) Q := by
  unfold w150 at h
  refine go_l qd150_0 rfl ?_
  refine go_s qd150_1 rfl ?_
  obtain ⟨T1, e2, h⟩ := sw_bind h
  refine ga_pfi qd150_2 qc150 qg6_28 (sw_sl hn (by decide)) rfl qi6_0 e2 ?_
  refine go_l qd150_5 rfl ?_
  refine go_s qd150_6 rfl ?_
  refine go_l qd150_7 rfl ?_
  refine ga_gf (v := .ref (z + 222)) qd150_8 qc150 qf6_7 (sw_sl hn (by decide)) rfl rfl ?_
  refine go_s qd150_11 rfl ?_
  obtain ⟨v4, e3, h⟩ := sw_bind h
  refine ga_iald qd150_12 (sw_sl hn (by decide)) e3 ?_
  refine go_s qd150_13 rfl ?_
  refine ga_isub qd150_14 ?_
  obtain ⟨r6, e5, h⟩ := sw_bind h
  refine ga_kS (as := [.int (Int32.ofInt p1), .int (Int32.ofInt 0), .int (Int32.ofInt (v4 - 1))]) (rest := []) qd150_15 qk150_36 rfl rfl (Nat.le_of_ble_eq_true rfl) (Nat.le_of_ble_eq_true rfl) rfl (A96 hn e5 (sw_bkv ?_))
  obtain ⟨_u, e7, h⟩ := sw_bind h
  by_cases hb8 : r6 = 0
  · replace h := sw_ifY hb8 h
    refine ga_zneY (t := 27) qd150_18 e7 hb8 rfl ?_
    refine go_l qd150_21 rfl ?_
    refine go_s qd150_22 rfl ?_
    obtain ⟨r10, e9, h⟩ := sw_bind h
    refine ga_kv (a := 221) (as := [.int (Int32.ofInt 1)]) (rest := []) qd150_23 qk150_103 (sw_sl hn (by decide)) rfl rfl rfl (Nat.le_of_ble_eq_true rfl) (Nat.le_of_ble_eq_true rfl) rfl (A97 hn e9 (sw_bkv ?_))
    rw [← sw_sj h] at kk
    exact ga_ri qd150_26 qr150 kk
  · replace h := sw_ifN hb8 h
    refine ga_zneN (t := 27) qd150_18 e7 hb8 rfl ?_
    refine go_l qd150_27 rfl ?_
    refine go_s qd150_28 rfl ?_
    refine go_s qd150_29 rfl ?_
    obtain ⟨r12, e11, h⟩ := sw_bind h
    refine ga_kS (as := [.int (Int32.ofInt p2), .int (Int32.ofInt 0), .int (Int32.ofInt 2)]) (rest := []) qd150_30 qk150_36 rfl rfl (Nat.le_of_ble_eq_true rfl) (Nat.le_of_ble_eq_true rfl) rfl (A96 hn e11 (sw_bkv ?_))
    obtain ⟨_u, e13, h⟩ := sw_bind h
    by_cases hb14 : r12 = 0
    · replace h := sw_ifY hb14 h
      refine ga_zeqY (t := 45) qd150_33 e13 hb14 rfl ?_
      refine go_l qd150_45 rfl ?_
      refine go_s qd150_46 rfl ?_
      obtain ⟨r16, e15, h⟩ := sw_bind h
      refine ga_kv (a := 221) (as := [.int (Int32.ofInt 2)]) (rest := []) qd150_47 qk150_103 (sw_sl hn (by decide)) rfl rfl rfl (Nat.le_of_ble_eq_true rfl) (Nat.le_of_ble_eq_true rfl) rfl (A97 hn e15 (sw_bkv ?_))
      rw [← sw_sj h] at kk
      exact ga_ri qd150_50 qr150 kk
    · replace h := sw_ifN hb14 h
      refine ga_zeqN (t := 45) qd150_33 e13 hb14 rfl ?_
      refine go_l qd150_36 rfl ?_
      refine go_l qd150_37 rfl ?_
      refine go_l qd150_38 rfl ?_
      obtain ⟨r18, e17, h⟩ := sw_bind h
      refine ga_kv (a := 221) (as := [.int (Int32.ofInt p1), .int (Int32.ofInt p2)]) (rest := []) qd150_39 qk150_57 (sw_sl hn (by decide)) rfl rfl rfl (Nat.le_of_ble_eq_true rfl) (Nat.le_of_ble_eq_true rfl) rfl (A102 hn e17 (sw_bkv ?_))
      refine ga_jp (t := 50) qd150_42 rfl ?_
      rw [← sw_sj h] at kk
      exact ga_ri qd150_50 qr150 kk
theorem qc151 : sq_c 151 = 6 := by decide +kernel
theorem qr151 : sq_ret 151 = some .int := by decide +kernel
theorem qk151_168 : sw_ck 151 168 123 0 1 6 4 = true := by decide +kernel
theorem qk151_122 : sw_ck 151 122 121 0 1 6 4 = true := by decide +kernel
theorem qk151_171 : sw_ck 151 171 122 0 0 6 3 = true := by decide +kernel
-- 151: SewingPilesModel.tellsCount(I)I
def w151 (T : sw_T) (p1 : Int) : Option (Int) :=
  (sw_r1 p1).bind fun _u =>
  if p1 = 0 then
    (sw_ld T 222 543 3).bind fun v4 =>
    some (v4)
  else
  if p1 = 1 then
    (sw_ld T 222 543 4).bind fun v7 =>
    some (v7)
  else
  if p1 = 2 then
    (sw_ld T 222 543 5).bind fun v10 =>
    some (v10)
  else
  if p1 = 3 then
    (w123 T 2).bind fun r13 =>
    some (r13)
  else
  if p1 = 4 then
    (w123 T (p1 - 4)).bind fun r16 =>
    some (r16)
  else
  if p1 = 5 then
    (w123 T (p1 - 4)).bind fun r19 =>
    some (r19)
  else
  if p1 = 6 then
    (w121 T 5).bind fun r22 =>
    some (r22)
  else
  if p1 = 7 then
    (w121 T 7).bind fun r25 =>
    some (r25)
  else
  if p1 = 8 then
    (sw_ld T 222 543 6).bind fun v28 =>
    some (v28)
  else
  if p1 = 9 then
    (w121 T 3).bind fun r31 =>
    some (r31)
  else
  if p1 = 10 then
    (w122 T).bind fun r34 =>
    some (r34)
  else
    some ((T 221 4))
theorem A151 {G : sp_G} {z n : Nat} (hn : 228 ≤ n) {T : sw_T} {K : sw_K} {p1 : Int} {res : Int} {Q : sp_R → sp_M → Prop} (h : w151 T p1 = some res) (kk : Q (.inl (some (.int (Int32.ofInt res)))) (sw_M z n sw_Ft T K)) : sq_go G 151 0 [some (.ref (z + 221)), some (.int (Int32.ofInt p1))] [] (sw_M z n sw_Ft T K) Q := by
  unfold w151 at h
  refine go_l qd151_0 rfl ?_
  obtain ⟨_u, e1, h⟩ := sw_bind h
  by_cases hb2 : p1 = 0
  · replace h := sw_ifY hb2 h
    refine ga_sw (t := 60) qd151_1 rfl hb2 rfl ?_
    refine go_l qd151_60 rfl ?_
    refine ga_gf (v := .ref (z + 222)) qd151_61 qc151 qf6_7 (sw_sl hn (by decide)) rfl rfl ?_
    refine go_s qd151_64 rfl ?_
    obtain ⟨v4, e3, h⟩ := sw_bind h
    refine ga_iald qd151_65 (sw_sl hn (by decide)) e3 ?_
    rw [← sw_sj h] at kk
    exact ga_ri qd151_66 qr151 kk
  · replace h := sw_ifN hb2 h
    by_cases hb5 : p1 = 1
    · replace h := sw_ifY hb5 h
      refine ga_sw (t := 67) qd151_1 rfl hb5 rfl ?_
      refine go_l qd151_67 rfl ?_
      refine ga_gf (v := .ref (z + 222)) qd151_68 qc151 qf6_7 (sw_sl hn (by decide)) rfl rfl ?_
      refine go_s qd151_71 rfl ?_
      obtain ⟨v7, e6, h⟩ := sw_bind h
      refine ga_iald qd151_72 (sw_sl hn (by decide)) e6 ?_
      rw [← sw_sj h] at kk
      exact ga_ri qd151_73 qr151 kk
    · replace h := sw_ifN hb5 h
      by_cases hb8 : p1 = 2
      · replace h := sw_ifY hb8 h
        refine ga_sw (t := 74) qd151_1 rfl hb8 rfl ?_
        refine go_l qd151_74 rfl ?_
        refine ga_gf (v := .ref (z + 222)) qd151_75 qc151 qf6_7 (sw_sl hn (by decide)) rfl rfl ?_
        refine go_s qd151_78 rfl ?_
        obtain ⟨v10, e9, h⟩ := sw_bind h
        refine ga_iald qd151_79 (sw_sl hn (by decide)) e9 ?_
        rw [← sw_sj h] at kk
        exact ga_ri qd151_80 qr151 kk
      · replace h := sw_ifN hb8 h
        by_cases hb11 : p1 = 3
        · replace h := sw_ifY hb11 h
          refine ga_sw (t := 81) qd151_1 rfl hb11 rfl ?_
          refine go_l qd151_81 rfl ?_
          refine go_s qd151_82 rfl ?_
          obtain ⟨r13, e12, h⟩ := sw_bind h
          refine ga_kv (a := 221) (as := [.int (Int32.ofInt 2)]) (rest := []) qd151_83 qk151_168 (sw_sl hn (by decide)) rfl rfl rfl (Nat.le_of_ble_eq_true rfl) (Nat.le_of_ble_eq_true rfl) rfl (A123 hn e12 (sw_bkv ?_))
          rw [← sw_sj h] at kk
          exact ga_ri qd151_86 qr151 kk
        · replace h := sw_ifN hb11 h
          by_cases hb14 : p1 = 4
          · replace h := sw_ifY hb14 h
            refine ga_sw (t := 87) qd151_1 rfl hb14 rfl ?_
            refine go_l qd151_87 rfl ?_
            refine go_l qd151_88 rfl ?_
            refine go_s qd151_89 rfl ?_
            refine ga_isub qd151_90 ?_
            obtain ⟨r16, e15, h⟩ := sw_bind h
            refine ga_kv (a := 221) (as := [.int (Int32.ofInt (p1 - 4))]) (rest := []) qd151_91 qk151_168 (sw_sl hn (by decide)) rfl rfl rfl (Nat.le_of_ble_eq_true rfl) (Nat.le_of_ble_eq_true rfl) rfl (A123 hn e15 (sw_bkv ?_))
            rw [← sw_sj h] at kk
            exact ga_ri qd151_94 qr151 kk
          · replace h := sw_ifN hb14 h
            by_cases hb17 : p1 = 5
            · replace h := sw_ifY hb17 h
              refine ga_sw (t := 87) qd151_1 rfl hb17 rfl ?_
              refine go_l qd151_87 rfl ?_
              refine go_l qd151_88 rfl ?_
              refine go_s qd151_89 rfl ?_
              refine ga_isub qd151_90 ?_
              obtain ⟨r19, e18, h⟩ := sw_bind h
              refine ga_kv (a := 221) (as := [.int (Int32.ofInt (p1 - 4))]) (rest := []) qd151_91 qk151_168 (sw_sl hn (by decide)) rfl rfl rfl (Nat.le_of_ble_eq_true rfl) (Nat.le_of_ble_eq_true rfl) rfl (A123 hn e18 (sw_bkv ?_))
              rw [← sw_sj h] at kk
              exact ga_ri qd151_94 qr151 kk
            · replace h := sw_ifN hb17 h
              by_cases hb20 : p1 = 6
              · replace h := sw_ifY hb20 h
                refine ga_sw (t := 95) qd151_1 rfl hb20 rfl ?_
                refine go_l qd151_95 rfl ?_
                refine go_s qd151_96 rfl ?_
                obtain ⟨r22, e21, h⟩ := sw_bind h
                refine ga_kv (a := 221) (as := [.int (Int32.ofInt 5)]) (rest := []) qd151_97 qk151_122 (sw_sl hn (by decide)) rfl rfl rfl (Nat.le_of_ble_eq_true rfl) (Nat.le_of_ble_eq_true rfl) rfl (A121 hn e21 (sw_bkv ?_))
                rw [← sw_sj h] at kk
                exact ga_ri qd151_100 qr151 kk
              · replace h := sw_ifN hb20 h
                by_cases hb23 : p1 = 7
                · replace h := sw_ifY hb23 h
                  refine ga_sw (t := 101) qd151_1 rfl hb23 rfl ?_
                  refine go_l qd151_101 rfl ?_
                  refine ga_k8 qd151_102 rfl ?_
                  obtain ⟨r25, e24, h⟩ := sw_bind h
                  refine ga_kv (a := 221) (as := [.int (Int32.ofInt 7)]) (rest := []) qd151_104 qk151_122 (sw_sl hn (by decide)) rfl rfl rfl (Nat.le_of_ble_eq_true rfl) (Nat.le_of_ble_eq_true rfl) rfl (A121 hn e24 (sw_bkv ?_))
                  rw [← sw_sj h] at kk
                  exact ga_ri qd151_107 qr151 kk
                · replace h := sw_ifN hb23 h
                  by_cases hb26 : p1 = 8
                  · replace h := sw_ifY hb26 h
                    refine ga_sw (t := 108) qd151_1 rfl hb26 rfl ?_
                    refine go_l qd151_108 rfl ?_
                    refine ga_gf (v := .ref (z + 222)) qd151_109 qc151 qf6_7 (sw_sl hn (by decide)) rfl rfl ?_
                    refine ga_k8 qd151_112 rfl ?_
                    obtain ⟨v28, e27, h⟩ := sw_bind h
                    refine ga_iald qd151_114 (sw_sl hn (by decide)) e27 ?_
                    rw [← sw_sj h] at kk
                    exact ga_ri qd151_115 qr151 kk
                  · replace h := sw_ifN hb26 h
                    by_cases hb29 : p1 = 9
                    · replace h := sw_ifY hb29 h
                      refine ga_sw (t := 116) qd151_1 rfl hb29 rfl ?_
                      refine go_l qd151_116 rfl ?_
                      refine go_s qd151_117 rfl ?_
                      obtain ⟨r31, e30, h⟩ := sw_bind h
                      refine ga_kv (a := 221) (as := [.int (Int32.ofInt 3)]) (rest := []) qd151_118 qk151_122 (sw_sl hn (by decide)) rfl rfl rfl (Nat.le_of_ble_eq_true rfl) (Nat.le_of_ble_eq_true rfl) rfl (A121 hn e30 (sw_bkv ?_))
                      rw [← sw_sj h] at kk
                      exact ga_ri qd151_121 qr151 kk
                    · replace h := sw_ifN hb29 h
                      by_cases hb32 : p1 = 10
                      · replace h := sw_ifY hb32 h
                        refine ga_sw (t := 122) qd151_1 rfl hb32 rfl ?_
                        refine go_l qd151_122 rfl ?_
                        obtain ⟨r34, e33, h⟩ := sw_bind h
                        refine ga_kv (a := 221) (as := []) (rest := []) qd151_123 qk151_171 (sw_sl hn (by decide)) rfl rfl rfl (Nat.le_of_ble_eq_true rfl) (Nat.le_of_ble_eq_true rfl) rfl (A122 hn e33 (sw_bkv ?_))
                        rw [← sw_sj h] at kk
                        exact ga_ri qd151_126 qr151 kk
                      · replace h := sw_ifN hb32 h
                        refine ga_tsd (t := 127) qd151_1 e1 (by omega) rfl ?_
                        refine go_l qd151_127 rfl ?_
                        refine ga_gf (v := .int (Int32.ofInt (T 221 4))) qd151_128 qc151 qf6_40 (sw_sl hn (by decide)) rfl rfl ?_
                        rw [← sw_sj h] at kk
                        exact ga_ri qd151_131 qr151 kk
theorem qc152 : sq_c 152 = 6 := by decide +kernel
theorem qk152_36 : sw_ck 152 36 96 1 3 6 3 = true := by decide +kernel
theorem qk152_103 : sw_ck 152 103 97 0 1 6 2 = true := by decide +kernel
theorem qr152 : sq_ret 152 = some .int := by decide +kernel
theorem qk152_174 : sw_ck 152 174 151 0 1 6 2 = true := by decide +kernel
-- 152: SewingPilesModel.count(I)I
def w152 (T : sw_T) (p1 : Int) : Option (Int × sw_T) :=
  (sw_pf T 221 0 0).bind fun T1 =>
  (w96 T1 p1 0 11).bind fun r4 =>
  (sw_r1 r4).bind fun _u =>
  if r4 = 0 then
    (w97 T1 1).bind fun r8 =>
    some ((r8.1, r8.2))
  else
    (w151 T1 p1).bind fun r10 =>
    some ((r10, T1))
theorem A152 {G : sp_G} {z n : Nat} (hn : 228 ≤ n) {T : sw_T} {K : sw_K} {p1 : Int} {res : Int × sw_T} {Q : sp_R → sp_M → Prop} (h : w152 T p1 = some res) (kk : Q (.inl (some (.int (Int32.ofInt res.1)))) (sw_M z n sw_Ft res.2 K)) : sq_go G 152 0 [some (.ref (z + 221)), some (.int (Int32.ofInt p1))] [] (sw_M z n sw_Ft T K) Q := by
  unfold w152 at h
  refine go_l qd152_0 rfl ?_
  refine go_s qd152_1 rfl ?_
  obtain ⟨T1, e2, h⟩ := sw_bind h
  refine ga_pfi qd152_2 qc152 qg6_28 (sw_sl hn (by decide)) rfl qi6_0 e2 ?_
  refine go_l qd152_5 rfl ?_
  refine go_s qd152_6 rfl ?_
  refine ga_k8 qd152_7 rfl ?_
  obtain ⟨r4, e3, h⟩ := sw_bind h
  refine ga_kS (as := [.int (Int32.ofInt p1), .int (Int32.ofInt 0), .int (Int32.ofInt 11)]) (rest := []) qd152_9 qk152_36 rfl rfl (Nat.le_of_ble_eq_true rfl) (Nat.le_of_ble_eq_true rfl) rfl (A96 hn e3 (sw_bkv ?_))
  obtain ⟨_u, e5, h⟩ := sw_bind h
  by_cases hb6 : r4 = 0
  · replace h := sw_ifY hb6 h
    refine ga_zeqY (t := 23) qd152_12 e5 hb6 rfl ?_
    refine go_l qd152_23 rfl ?_
    refine go_s qd152_24 rfl ?_
    obtain ⟨r8, e7, h⟩ := sw_bind h
    refine ga_kv (a := 221) (as := [.int (Int32.ofInt 1)]) (rest := []) qd152_25 qk152_103 (sw_sl hn (by decide)) rfl rfl rfl (Nat.le_of_ble_eq_true rfl) (Nat.le_of_ble_eq_true rfl) rfl (A97 hn e7 (sw_bkv ?_))
    rw [← sw_sj h] at kk
    exact ga_ri qd152_28 qr152 kk
  · replace h := sw_ifN hb6 h
    refine ga_zeqN (t := 23) qd152_12 e5 hb6 rfl ?_
    refine go_l qd152_15 rfl ?_
    refine go_l qd152_16 rfl ?_
    obtain ⟨r10, e9, h⟩ := sw_bind h
    refine ga_kv (a := 221) (as := [.int (Int32.ofInt p1)]) (rest := []) qd152_17 qk152_174 (sw_sl hn (by decide)) rfl rfl rfl (Nat.le_of_ble_eq_true rfl) (Nat.le_of_ble_eq_true rfl) rfl (A151 hn e9 (sw_bkv ?_))
    refine ga_jp (t := 28) qd152_20 rfl ?_
    rw [← sw_sj h] at kk
    exact ga_ri qd152_28 qr152 kk
theorem qc153 : sq_c 153 = 6 := by decide +kernel
theorem qk153_36 : sw_ck 153 36 96 1 3 6 3 = true := by decide +kernel
theorem qk153_103 : sw_ck 153 103 97 0 1 6 2 = true := by decide +kernel
theorem qr153 : sq_ret 153 = some .int := by decide +kernel
-- 153: SewingPilesModel.setting(I)I
def w153 (T : sw_T) (p1 : Int) : Option (Int × sw_T) :=
  (sw_pf T 221 0 0).bind fun T1 =>
  (w96 T1 p1 0 2).bind fun r4 =>
  (sw_r1 r4).bind fun _u =>
  if r4 = 0 then
    (w97 T1 1).bind fun r8 =>
    some ((r8.1, r8.2))
  else
    (sw_ld T1 222 543 p1).bind fun v10 =>
    some ((v10, T1))
theorem A153 {G : sp_G} {z n : Nat} (hn : 228 ≤ n) {T : sw_T} {K : sw_K} {p1 : Int} {res : Int × sw_T} {Q : sp_R → sp_M → Prop} (h : w153 T p1 = some res) (kk : Q (.inl (some (.int (Int32.ofInt res.1)))) (sw_M z n sw_Ft res.2 K)) : sq_go G 153 0 [some (.ref (z + 221)), some (.int (Int32.ofInt p1))] [] (sw_M z n sw_Ft T K) Q := by
  unfold w153 at h
  refine go_l qd153_0 rfl ?_
  refine go_s qd153_1 rfl ?_
  obtain ⟨T1, e2, h⟩ := sw_bind h
  refine ga_pfi qd153_2 qc153 qg6_28 (sw_sl hn (by decide)) rfl qi6_0 e2 ?_
  refine go_l qd153_5 rfl ?_
  refine go_s qd153_6 rfl ?_
  refine go_s qd153_7 rfl ?_
  obtain ⟨r4, e3, h⟩ := sw_bind h
  refine ga_kS (as := [.int (Int32.ofInt p1), .int (Int32.ofInt 0), .int (Int32.ofInt 2)]) (rest := []) qd153_8 qk153_36 rfl rfl (Nat.le_of_ble_eq_true rfl) (Nat.le_of_ble_eq_true rfl) rfl (A96 hn e3 (sw_bkv ?_))
  obtain ⟨_u, e5, h⟩ := sw_bind h
  by_cases hb6 : r4 = 0
  · replace h := sw_ifY hb6 h
    refine ga_zeqY (t := 23) qd153_11 e5 hb6 rfl ?_
    refine go_l qd153_23 rfl ?_
    refine go_s qd153_24 rfl ?_
    obtain ⟨r8, e7, h⟩ := sw_bind h
    refine ga_kv (a := 221) (as := [.int (Int32.ofInt 1)]) (rest := []) qd153_25 qk153_103 (sw_sl hn (by decide)) rfl rfl rfl (Nat.le_of_ble_eq_true rfl) (Nat.le_of_ble_eq_true rfl) rfl (A97 hn e7 (sw_bkv ?_))
    rw [← sw_sj h] at kk
    exact ga_ri qd153_28 qr153 kk
  · replace h := sw_ifN hb6 h
    refine ga_zeqN (t := 23) qd153_11 e5 hb6 rfl ?_
    refine go_l qd153_14 rfl ?_
    refine ga_gf (v := .ref (z + 222)) qd153_15 qc153 qf6_7 (sw_sl hn (by decide)) rfl rfl ?_
    refine go_l qd153_18 rfl ?_
    obtain ⟨v10, e9, h⟩ := sw_bind h
    refine ga_iald qd153_19 (sw_sl hn (by decide)) e9 ?_
    refine ga_jp (t := 28) qd153_20 rfl ?_
    rw [← sw_sj h] at kk
    exact ga_ri qd153_28 qr153 kk
theorem qc154 : sq_c 154 = 6 := by decide +kernel
theorem qk154_112 : sw_ck 154 112 104 0 1 6 2 = true := by decide +kernel
theorem qk154_103 : sw_ck 154 103 97 0 1 6 2 = true := by decide +kernel
theorem qr154 : sq_ret 154 = some .int := by decide +kernel
theorem qk154_80 : sw_ck 154 80 115 0 1 6 5 = true := by decide +kernel
-- 154: SewingPilesModel.choice(I)I
def w154 (T : sw_T) (p1 : Int) : Option (Int × sw_T) :=
  (sw_pf T 221 0 0).bind fun T1 =>
  (w104 T1 p1).bind fun r4 =>
  (sw_r1 r4).bind fun _u =>
  if r4 = 0 then
    (w97 T1 1).bind fun r8 =>
    some ((r8.1, r8.2))
  else
    (w115 T1 p1).bind fun r10 =>
    some ((r10, T1))
theorem A154 {G : sp_G} {z n : Nat} (hn : 228 ≤ n) {T : sw_T} {K : sw_K} {p1 : Int} {res : Int × sw_T} {Q : sp_R → sp_M → Prop} (h : w154 T p1 = some res) (kk : Q (.inl (some (.int (Int32.ofInt res.1)))) (sw_M z n sw_Ft res.2 K)) : sq_go G 154 0 [some (.ref (z + 221)), some (.int (Int32.ofInt p1))] [] (sw_M z n sw_Ft T K) Q := by
  unfold w154 at h
  refine go_l qd154_0 rfl ?_
  refine go_s qd154_1 rfl ?_
  obtain ⟨T1, e2, h⟩ := sw_bind h
  refine ga_pfi qd154_2 qc154 qg6_28 (sw_sl hn (by decide)) rfl qi6_0 e2 ?_
  refine go_l qd154_5 rfl ?_
  refine go_l qd154_6 rfl ?_
  obtain ⟨r4, e3, h⟩ := sw_bind h
  refine ga_kv (a := 221) (as := [.int (Int32.ofInt p1)]) (rest := []) qd154_7 qk154_112 (sw_sl hn (by decide)) rfl rfl rfl (Nat.le_of_ble_eq_true rfl) (Nat.le_of_ble_eq_true rfl) rfl (A104 hn e3 (sw_bkv ?_))
  obtain ⟨_u, e5, h⟩ := sw_bind h
  by_cases hb6 : r4 = 0
  · replace h := sw_ifY hb6 h
    refine ga_zeqY (t := 21) qd154_10 e5 hb6 rfl ?_
    refine go_l qd154_21 rfl ?_
    refine go_s qd154_22 rfl ?_
    obtain ⟨r8, e7, h⟩ := sw_bind h
    refine ga_kv (a := 221) (as := [.int (Int32.ofInt 1)]) (rest := []) qd154_23 qk154_103 (sw_sl hn (by decide)) rfl rfl rfl (Nat.le_of_ble_eq_true rfl) (Nat.le_of_ble_eq_true rfl) rfl (A97 hn e7 (sw_bkv ?_))
    rw [← sw_sj h] at kk
    exact ga_ri qd154_26 qr154 kk
  · replace h := sw_ifN hb6 h
    refine ga_zeqN (t := 21) qd154_10 e5 hb6 rfl ?_
    refine go_l qd154_13 rfl ?_
    refine go_l qd154_14 rfl ?_
    obtain ⟨r10, e9, h⟩ := sw_bind h
    refine ga_kv (a := 221) (as := [.int (Int32.ofInt p1)]) (rest := []) qd154_15 qk154_80 (sw_sl hn (by decide)) rfl rfl rfl (Nat.le_of_ble_eq_true rfl) (Nat.le_of_ble_eq_true rfl) rfl (A115 hn e9 (sw_bkv ?_))
    refine ga_jp (t := 26) qd154_18 rfl ?_
    rw [← sw_sj h] at kk
    exact ga_ri qd154_26 qr154 kk
theorem qk155_168 : sw_ck 155 168 123 0 1 6 4 = true := by decide +kernel
theorem qc155 : sq_c 155 = 6 := by decide +kernel
theorem qk155_100 : sw_ck 155 100 119 0 0 6 2 = true := by decide +kernel
theorem qr155 : sq_ret 155 = some .int := by decide +kernel
-- 155: SewingPilesModel.until()I
def w155_2 : Nat → sw_T → Int → Option (sw_T × Int)
  | 0, _, _ => none
  | m + 1, T, l1 =>
    (sw_r2 l1 2000).bind fun _u =>
    if l1 < 2000 then
      (w123 T 2).bind fun r4 =>
      (sw_ld T 222 543 5).bind fun v6 =>
      (sw_r2 r4 v6).bind fun _u =>
      if r4 < v6 then
        (w119 T).bind fun r10 =>
        w155_2 m r10 (l1 + 1)
      else
        some ((T, l1))
    else
      some ((T, l1))
theorem B155_2 {G : sp_G} {z n : Nat} (hn : 228 ≤ n) {K : sw_K} {res : sw_T × Int} {Q : sp_R → sp_M → Prop} (kk : sq_go G 155 33 [some (.ref (z + 221)), some (.int (Int32.ofInt res.2))] [] (sw_M z n sw_Ft res.1 K) Q) : ∀ (m : Nat) (T : sw_T) (l1 : Int), w155_2  m T l1 = some res → sq_go G 155 2 [some (.ref (z + 221)), some (.int (Int32.ofInt l1))] [] (sw_M z n sw_Ft T K) Q := by
  intro m
  induction m with
  | zero => intro T l1 h; cases h
  | succ m ih =>
    intro T l1 h
    rw [w155_2] at h
    refine go_l qd155_2 rfl ?_
    refine ga_k16 qd155_3 rfl ?_
    obtain ⟨_u, e1, h⟩ := sw_bind h
    by_cases hb2 : l1 < 2000
    · replace h := sw_ifY hb2 h
      refine ga_cgeY (t := 33) qd155_6 e1 hb2 rfl ?_
      refine go_l qd155_9 rfl ?_
      refine go_s qd155_10 rfl ?_
      obtain ⟨r4, e3, h⟩ := sw_bind h
      refine ga_kv (a := 221) (as := [.int (Int32.ofInt 2)]) (rest := []) qd155_11 qk155_168 (sw_sl hn (by decide)) rfl rfl rfl (Nat.le_of_ble_eq_true rfl) (Nat.le_of_ble_eq_true rfl) rfl (A123 hn e3 (sw_bkv ?_))
      refine go_l qd155_14 rfl ?_
      refine ga_gf (v := .ref (z + 222)) qd155_15 qc155 qf6_7 (sw_sl hn (by decide)) rfl rfl ?_
      refine go_s qd155_18 rfl ?_
      obtain ⟨v6, e5, h⟩ := sw_bind h
      refine ga_iald qd155_19 (sw_sl hn (by decide)) e5 ?_
      obtain ⟨_u, e7, h⟩ := sw_bind h
      by_cases hb8 : r4 < v6
      · replace h := sw_ifY hb8 h
        refine ga_cgeY (t := 33) qd155_20 e7 hb8 rfl ?_
        refine go_l qd155_23 rfl ?_
        obtain ⟨r10, e9, h⟩ := sw_bind h
        refine ga_kv (a := 221) (as := []) (rest := []) qd155_24 qk155_100 (sw_sl hn (by decide)) rfl rfl rfl (Nat.le_of_ble_eq_true rfl) (Nat.le_of_ble_eq_true rfl) rfl (A119 hn e9 (sw_bk0 ?_))
        refine ga_ii (L' := [some (.ref (z + 221)), some (.int (Int32.ofInt (l1 + 1)))]) qd155_27 rfl rfl ?_
        refine ga_jp (t := 2) qd155_30 rfl ?_
        exact sq_weak (L := [some (.ref (z + 221)), some (.int (Int32.ofInt (l1 + 1)))]) ⟨rfl, rfl, trivial⟩ (ih _ _ h)
      · replace h := sw_ifN hb8 h
        refine ga_cgeN (t := 33) qd155_20 e7 hb8 rfl ?_
        rw [← sw_sj h] at kk
        exact sq_weak (L := [some (.ref (z + 221)), some (.int (Int32.ofInt l1))]) ⟨rfl, rfl, trivial⟩ kk
    · replace h := sw_ifN hb2 h
      refine ga_cgeN (t := 33) qd155_6 e1 hb2 rfl ?_
      rw [← sw_sj h] at kk
      exact sq_weak (L := [some (.ref (z + 221)), some (.int (Int32.ofInt l1))]) ⟨rfl, rfl, trivial⟩ kk
def w155 (T : sw_T) : Option (Int × sw_T) :=
  (w155_2 sw_N T 0).bind fun x11 =>
  (w123 x11.1 2).bind fun r14 =>
  (sw_ld x11.1 222 543 5).bind fun v16 =>
  (sw_r2 r14 v16).bind fun _u =>
  if r14 = v16 then
    some ((x11.2, x11.1))
  else
    some (((-1), x11.1))
theorem A155 {G : sp_G} {z n : Nat} (hn : 228 ≤ n) {T : sw_T} {K : sw_K} {res : Int × sw_T} {Q : sp_R → sp_M → Prop} (h : w155 T = some res) (kk : Q (.inl (some (.int (Int32.ofInt res.1)))) (sw_M z n sw_Ft res.2 K)) : sq_go G 155 0 [some (.ref (z + 221)), none] [] (sw_M z n sw_Ft T K) Q := by
  unfold w155 at h
  refine go_s qd155_0 rfl ?_
  refine go_l (L' := [some (.ref (z + 221)), some (.int (Int32.ofInt 0))]) (st' := []) qd155_1 rfl ?_
  obtain ⟨x11, e12, h⟩ := sw_bind h
  refine sq_weak (L := [some (.ref (z + 221)), some (.int (Int32.ofInt 0))]) ⟨rfl, rfl, trivial⟩ (B155_2 hn (res := x11) ?_ _ _ _ e12)
  refine go_l qd155_33 rfl ?_
  refine go_s qd155_34 rfl ?_
  obtain ⟨r14, e13, h⟩ := sw_bind h
  refine ga_kv (a := 221) (as := [.int (Int32.ofInt 2)]) (rest := []) qd155_35 qk155_168 (sw_sl hn (by decide)) rfl rfl rfl (Nat.le_of_ble_eq_true rfl) (Nat.le_of_ble_eq_true rfl) rfl (A123 hn e13 (sw_bkv ?_))
  refine go_l qd155_38 rfl ?_
  refine ga_gf (v := .ref (z + 222)) qd155_39 qc155 qf6_7 (sw_sl hn (by decide)) rfl rfl ?_
  refine go_s qd155_42 rfl ?_
  obtain ⟨v16, e15, h⟩ := sw_bind h
  refine ga_iald qd155_43 (sw_sl hn (by decide)) e15 ?_
  obtain ⟨_u, e17, h⟩ := sw_bind h
  by_cases hb18 : r14 = v16
  · replace h := sw_ifY hb18 h
    refine ga_cneY (t := 51) qd155_44 e17 hb18 rfl ?_
    refine go_l qd155_47 rfl ?_
    refine ga_jp (t := 52) qd155_48 rfl ?_
    rw [← sw_sj h] at kk
    exact ga_ri qd155_52 qr155 kk
  · replace h := sw_ifN hb18 h
    refine ga_cneN (t := 51) qd155_44 e17 hb18 rfl ?_
    refine go_s qd155_51 rfl ?_
    rw [← sw_sj h] at kk
    exact ga_ri qd155_52 qr155 kk
theorem qk156_177 : sw_ck 156 177 106 0 0 6 2 = true := by decide +kernel
theorem qg6_76 : sp_fd sp_flT 6 76 = some (6, 9) := by decide +kernel
theorem qc156 : sq_c 156 = 6 := by decide +kernel
theorem qk156_109 : sw_ck 156 109 124 0 1 6 4 = true := by decide +kernel
theorem qk156_180 : sw_ck 156 180 155 0 0 6 2 = true := by decide +kernel
theorem qk156_183 : sw_ck 156 183 107 0 0 6 2 = true := by decide +kernel
theorem qr156 : sq_ret 156 = some .int := by decide +kernel
-- 156: SewingPilesModel.done(ZI)I
def w156 (T : sw_T) (p1 : Int) (p2 : Int) : Option (Int × sw_T) :=
  (w106 T).bind fun r2 =>
  (sw_pb r2 221 9 p1).bind fun T3 =>
  (sw_r1 p2).bind fun _u =>
  if 0 < p2 then
    (w124 T3 p2).bind fun r8 =>
    (w155 r8.2).bind fun r10 =>
    (sw_pb r10.2 221 9 0).bind fun T11 =>
    (w107 T11).bind fun r14 =>
    some ((r10.1, r14))
  else
    (w155 T3).bind fun r16 =>
    (sw_pb r16.2 221 9 0).bind fun T17 =>
    (w107 T17).bind fun r20 =>
    some ((r16.1, r20))
theorem A156 {G : sp_G} {z n : Nat} (hn : 228 ≤ n) {T : sw_T} {K : sw_K} {p1 : Int} {p2 : Int} {res : Int × sw_T} {Q : sp_R → sp_M → Prop} (h : w156 T p1 p2 = some res) (kk : Q (.inl (some (.int (Int32.ofInt res.1)))) (sw_M z n sw_Ft res.2 K)) : sq_go G 156 0 [some (.ref (z + 221)), some (.int (Int32.ofInt p1)), some (.int (Int32.ofInt p2)), none] [] (sw_M z n sw_Ft T K) Q := by
  unfold w156 at h
  refine go_l qd156_0 rfl ?_
  obtain ⟨r2, e1, h⟩ := sw_bind h
  refine ga_kv (a := 221) (as := []) (rest := []) qd156_1 qk156_177 (sw_sl hn (by decide)) rfl rfl rfl (Nat.le_of_ble_eq_true rfl) (Nat.le_of_ble_eq_true rfl) rfl (A106 hn e1 (sw_bk0 ?_))
  refine go_l qd156_4 rfl ?_
  refine go_l qd156_5 rfl ?_
  obtain ⟨T3, e4, h⟩ := sw_bind h
  refine ga_pfb qd156_6 qc156 qg6_76 (sw_sl hn (by decide)) rfl qi6_9 e4 ?_
  refine go_l qd156_9 rfl ?_
  obtain ⟨_u, e5, h⟩ := sw_bind h
  by_cases hb6 : 0 < p2
  · replace h := sw_ifY hb6 h
    refine ga_zleY (t := 19) qd156_10 e5 hb6 rfl ?_
    refine go_l qd156_13 rfl ?_
    refine go_l qd156_14 rfl ?_
    obtain ⟨r8, e7, h⟩ := sw_bind h
    refine ga_kv (a := 221) (as := [.int (Int32.ofInt p2)]) (rest := []) qd156_15 qk156_109 (sw_sl hn (by decide)) rfl rfl rfl (Nat.le_of_ble_eq_true rfl) (Nat.le_of_ble_eq_true rfl) rfl (A124 hn e7 (sw_bkv ?_))
    refine go_s qd156_18 rfl ?_
    refine go_l qd156_19 rfl ?_
    obtain ⟨r10, e9, h⟩ := sw_bind h
    refine ga_kv (a := 221) (as := []) (rest := []) qd156_20 qk156_180 (sw_sl hn (by decide)) rfl rfl rfl (Nat.le_of_ble_eq_true rfl) (Nat.le_of_ble_eq_true rfl) rfl (A155 hn e9 (sw_bkv ?_))
    refine go_l (L' := [some (.ref (z + 221)), some (.int (Int32.ofInt p1)), some (.int (Int32.ofInt p2)), some (.int (Int32.ofInt r10.1))]) (st' := []) qd156_23 rfl ?_
    refine go_l qd156_24 rfl ?_
    refine go_s qd156_25 rfl ?_
    obtain ⟨T11, e12, h⟩ := sw_bind h
    refine ga_pfb qd156_26 qc156 qg6_76 (sw_sl hn (by decide)) rfl qi6_9 e12 ?_
    refine go_l qd156_29 rfl ?_
    obtain ⟨r14, e13, h⟩ := sw_bind h
    refine ga_kv (a := 221) (as := []) (rest := []) qd156_30 qk156_183 (sw_sl hn (by decide)) rfl rfl rfl (Nat.le_of_ble_eq_true rfl) (Nat.le_of_ble_eq_true rfl) rfl (A107 hn e13 (sw_bk0 ?_))
    refine go_l qd156_33 rfl ?_
    rw [← sw_sj h] at kk
    exact ga_ri qd156_34 qr156 kk
  · replace h := sw_ifN hb6 h
    refine ga_zleN (t := 19) qd156_10 e5 hb6 rfl ?_
    refine go_l qd156_19 rfl ?_
    obtain ⟨r16, e15, h⟩ := sw_bind h
    refine ga_kv (a := 221) (as := []) (rest := []) qd156_20 qk156_180 (sw_sl hn (by decide)) rfl rfl rfl (Nat.le_of_ble_eq_true rfl) (Nat.le_of_ble_eq_true rfl) rfl (A155 hn e15 (sw_bkv ?_))
    refine go_l (L' := [some (.ref (z + 221)), some (.int (Int32.ofInt p1)), some (.int (Int32.ofInt p2)), some (.int (Int32.ofInt r16.1))]) (st' := []) qd156_23 rfl ?_
    refine go_l qd156_24 rfl ?_
    refine go_s qd156_25 rfl ?_
    obtain ⟨T17, e18, h⟩ := sw_bind h
    refine ga_pfb qd156_26 qc156 qg6_76 (sw_sl hn (by decide)) rfl qi6_9 e18 ?_
    refine go_l qd156_29 rfl ?_
    obtain ⟨r20, e19, h⟩ := sw_bind h
    refine ga_kv (a := 221) (as := []) (rest := []) qd156_30 qk156_183 (sw_sl hn (by decide)) rfl rfl rfl (Nat.le_of_ble_eq_true rfl) (Nat.le_of_ble_eq_true rfl) rfl (A107 hn e19 (sw_bk0 ?_))
    refine go_l qd156_33 rfl ?_
    rw [← sw_sj h] at kk
    exact ga_ri qd156_34 qr156 kk
theorem qc157 : sq_c 157 = 6 := by decide +kernel
theorem qk157_186 : sw_ck 157 186 156 0 2 6 4 = true := by decide +kernel
theorem qr157 : sq_ret 157 = some .int := by decide +kernel
-- 157: SewingPilesModel.doneIn()I
def w157 (T : sw_T) : Option (Int × sw_T) :=
  (sw_pf T 221 0 0).bind fun T1 =>
  (w156 T1 0 0).bind fun r4 =>
  some ((r4.1, r4.2))
theorem A157 {G : sp_G} {z n : Nat} (hn : 228 ≤ n) {T : sw_T} {K : sw_K} {res : Int × sw_T} {Q : sp_R → sp_M → Prop} (h : w157 T = some res) (kk : Q (.inl (some (.int (Int32.ofInt res.1)))) (sw_M z n sw_Ft res.2 K)) : sq_go G 157 0 [some (.ref (z + 221))] [] (sw_M z n sw_Ft T K) Q := by
  unfold w157 at h
  refine go_l qd157_0 rfl ?_
  refine go_s qd157_1 rfl ?_
  obtain ⟨T1, e2, h⟩ := sw_bind h
  refine ga_pfi qd157_2 qc157 qg6_28 (sw_sl hn (by decide)) rfl qi6_0 e2 ?_
  refine go_l qd157_5 rfl ?_
  refine go_s qd157_6 rfl ?_
  refine go_s qd157_7 rfl ?_
  obtain ⟨r4, e3, h⟩ := sw_bind h
  refine ga_kv (a := 221) (as := [.int (Int32.ofInt 0), .int (Int32.ofInt 0)]) (rest := []) qd157_8 qk157_186 (sw_sl hn (by decide)) rfl rfl rfl (Nat.le_of_ble_eq_true rfl) (Nat.le_of_ble_eq_true rfl) rfl (A156 hn e3 (sw_bkv ?_))
  rw [← sw_sj h] at kk
  exact ga_ri qd157_11 qr157 kk
theorem qc158 : sq_c 158 = 6 := by decide +kernel
theorem qk158_186 : sw_ck 158 186 156 0 2 6 4 = true := by decide +kernel
theorem qr158 : sq_ret 158 = some .int := by decide +kernel
-- 158: SewingPilesModel.doneAlone()I
def w158 (T : sw_T) : Option (Int × sw_T) :=
  (sw_pf T 221 0 0).bind fun T1 =>
  (w156 T1 1 0).bind fun r4 =>
  some ((r4.1, r4.2))
theorem A158 {G : sp_G} {z n : Nat} (hn : 228 ≤ n) {T : sw_T} {K : sw_K} {res : Int × sw_T} {Q : sp_R → sp_M → Prop} (h : w158 T = some res) (kk : Q (.inl (some (.int (Int32.ofInt res.1)))) (sw_M z n sw_Ft res.2 K)) : sq_go G 158 0 [some (.ref (z + 221))] [] (sw_M z n sw_Ft T K) Q := by
  unfold w158 at h
  refine go_l qd158_0 rfl ?_
  refine go_s qd158_1 rfl ?_
  obtain ⟨T1, e2, h⟩ := sw_bind h
  refine ga_pfi qd158_2 qc158 qg6_28 (sw_sl hn (by decide)) rfl qi6_0 e2 ?_
  refine go_l qd158_5 rfl ?_
  refine go_s qd158_6 rfl ?_
  refine go_s qd158_7 rfl ?_
  obtain ⟨r4, e3, h⟩ := sw_bind h
  refine ga_kv (a := 221) (as := [.int (Int32.ofInt 1), .int (Int32.ofInt 0)]) (rest := []) qd158_8 qk158_186 (sw_sl hn (by decide)) rfl rfl rfl (Nat.le_of_ble_eq_true rfl) (Nat.le_of_ble_eq_true rfl) rfl (A156 hn e3 (sw_bkv ?_))
  rw [← sw_sj h] at kk
  exact ga_ri qd158_11 qr158 kk
theorem qc159 : sq_c 159 = 6 := by decide +kernel
theorem qk159_36 : sw_ck 159 36 96 1 3 6 3 = true := by decide +kernel
theorem qk159_103 : sw_ck 159 103 97 0 1 6 2 = true := by decide +kernel
theorem qr159 : sq_ret 159 = some .int := by decide +kernel
theorem qk159_186 : sw_ck 159 186 156 0 2 6 4 = true := by decide +kernel
-- 159: SewingPilesModel.doneWith(I)I
def w159 (T : sw_T) (p1 : Int) : Option (Int × sw_T) :=
  (sw_pf T 221 0 0).bind fun T1 =>
  (w96 T1 p1 1 9).bind fun r4 =>
  (sw_r1 r4).bind fun _u =>
  if r4 = 0 then
    (w97 T1 1).bind fun r8 =>
    some ((r8.1, r8.2))
  else
    (w156 T1 0 p1).bind fun r10 =>
    some ((r10.1, r10.2))
theorem A159 {G : sp_G} {z n : Nat} (hn : 228 ≤ n) {T : sw_T} {K : sw_K} {p1 : Int} {res : Int × sw_T} {Q : sp_R → sp_M → Prop} (h : w159 T p1 = some res) (kk : Q (.inl (some (.int (Int32.ofInt res.1)))) (sw_M z n sw_Ft res.2 K)) : sq_go G 159 0 [some (.ref (z + 221)), some (.int (Int32.ofInt p1))] [] (sw_M z n sw_Ft T K) Q := by
  unfold w159 at h
  refine go_l qd159_0 rfl ?_
  refine go_s qd159_1 rfl ?_
  obtain ⟨T1, e2, h⟩ := sw_bind h
  refine ga_pfi qd159_2 qc159 qg6_28 (sw_sl hn (by decide)) rfl qi6_0 e2 ?_
  refine go_l qd159_5 rfl ?_
  refine go_s qd159_6 rfl ?_
  refine ga_k8 qd159_7 rfl ?_
  obtain ⟨r4, e3, h⟩ := sw_bind h
  refine ga_kS (as := [.int (Int32.ofInt p1), .int (Int32.ofInt 1), .int (Int32.ofInt 9)]) (rest := []) qd159_9 qk159_36 rfl rfl (Nat.le_of_ble_eq_true rfl) (Nat.le_of_ble_eq_true rfl) rfl (A96 hn e3 (sw_bkv ?_))
  obtain ⟨_u, e5, h⟩ := sw_bind h
  by_cases hb6 : r4 = 0
  · replace h := sw_ifY hb6 h
    refine ga_zeqY (t := 24) qd159_12 e5 hb6 rfl ?_
    refine go_l qd159_24 rfl ?_
    refine go_s qd159_25 rfl ?_
    obtain ⟨r8, e7, h⟩ := sw_bind h
    refine ga_kv (a := 221) (as := [.int (Int32.ofInt 1)]) (rest := []) qd159_26 qk159_103 (sw_sl hn (by decide)) rfl rfl rfl (Nat.le_of_ble_eq_true rfl) (Nat.le_of_ble_eq_true rfl) rfl (A97 hn e7 (sw_bkv ?_))
    rw [← sw_sj h] at kk
    exact ga_ri qd159_29 qr159 kk
  · replace h := sw_ifN hb6 h
    refine ga_zeqN (t := 24) qd159_12 e5 hb6 rfl ?_
    refine go_l qd159_15 rfl ?_
    refine go_s qd159_16 rfl ?_
    refine go_l qd159_17 rfl ?_
    obtain ⟨r10, e9, h⟩ := sw_bind h
    refine ga_kv (a := 221) (as := [.int (Int32.ofInt 0), .int (Int32.ofInt p1)]) (rest := []) qd159_18 qk159_186 (sw_sl hn (by decide)) rfl rfl rfl (Nat.le_of_ble_eq_true rfl) (Nat.le_of_ble_eq_true rfl) rfl (A156 hn e9 (sw_bkv ?_))
    refine ga_jp (t := 29) qd159_21 rfl ?_
    rw [← sw_sj h] at kk
    exact ga_ri qd159_29 qr159 kk
theorem qk160_177 : sw_ck 160 177 106 0 0 6 2 = true := by decide +kernel
theorem qk160_122 : sw_ck 160 122 121 0 1 6 4 = true := by decide +kernel
theorem qk160_125 : sw_ck 160 125 120 0 1 6 3 = true := by decide +kernel
theorem qk160_171 : sw_ck 160 171 122 0 0 6 3 = true := by decide +kernel
theorem qk160_183 : sw_ck 160 183 107 0 0 6 2 = true := by decide +kernel
theorem qr160 : sq_ret 160 = some .int := by decide +kernel
-- 160: SewingPilesModel.would(II)I
def w160_19 (T : sw_T) (l1 : Int) (l2 : Int) (s0 : Int) : Option (Int × sw_T) :=
  (w106 T).bind fun r4 =>
  (w121 r4 s0).bind fun r6 =>
  (w120 r4 l1).bind fun r8 =>
  (sw_r2 l2 3).bind fun _u =>
  if l2 = 3 then
    (w122 r8).bind fun r12 =>
    (w107 r8).bind fun r14 =>
    some ((r12, r14))
  else
    (w121 r8 s0).bind fun r16 =>
    (w107 r8).bind fun r18 =>
    some (((r16 - r6), r18))
theorem B160_19 {G : sp_G} {z n : Nat} (hn : 228 ≤ n) {T : sw_T} {K : sw_K} {l1 : Int} {l2 : Int} {s0 : Int} {res : Int × sw_T} {Q : sp_R → sp_M → Prop} (h : w160_19 T l1 l2 s0 = some res) (kk : Q (.inl (some (.int (Int32.ofInt res.1)))) (sw_M z n sw_Ft res.2 K)) : sq_go G 160 19 [some (.ref (z + 221)), some (.int (Int32.ofInt l1)), some (.int (Int32.ofInt l2)), none, none, none] [.int (Int32.ofInt s0)] (sw_M z n sw_Ft T K) Q := by
  unfold w160_19 at h
  refine go_l (L' := [some (.ref (z + 221)), some (.int (Int32.ofInt l1)), some (.int (Int32.ofInt l2)), some (.int (Int32.ofInt s0)), none, none]) (st' := []) qd160_19 rfl ?_
  refine go_l qd160_20 rfl ?_
  obtain ⟨r4, e3, h⟩ := sw_bind h
  refine ga_kv (a := 221) (as := []) (rest := []) qd160_21 qk160_177 (sw_sl hn (by decide)) rfl rfl rfl (Nat.le_of_ble_eq_true rfl) (Nat.le_of_ble_eq_true rfl) rfl (A106 hn e3 (sw_bk0 ?_))
  refine go_l qd160_24 rfl ?_
  refine go_l qd160_25 rfl ?_
  obtain ⟨r6, e5, h⟩ := sw_bind h
  refine ga_kv (a := 221) (as := [.int (Int32.ofInt s0)]) (rest := []) qd160_26 qk160_122 (sw_sl hn (by decide)) rfl rfl rfl (Nat.le_of_ble_eq_true rfl) (Nat.le_of_ble_eq_true rfl) rfl (A121 hn e5 (sw_bkv ?_))
  refine go_l (L' := [some (.ref (z + 221)), some (.int (Int32.ofInt l1)), some (.int (Int32.ofInt l2)), some (.int (Int32.ofInt s0)), some (.int (Int32.ofInt r6)), none]) (st' := []) qd160_29 rfl ?_
  refine go_l qd160_31 rfl ?_
  refine go_l qd160_32 rfl ?_
  obtain ⟨r8, e7, h⟩ := sw_bind h
  refine ga_kv (a := 221) (as := [.int (Int32.ofInt l1)]) (rest := []) qd160_33 qk160_125 (sw_sl hn (by decide)) rfl rfl rfl (Nat.le_of_ble_eq_true rfl) (Nat.le_of_ble_eq_true rfl) rfl (A120 hn e7 (sw_bk0 ?_))
  refine go_l qd160_36 rfl ?_
  refine go_s qd160_37 rfl ?_
  obtain ⟨_u, e9, h⟩ := sw_bind h
  by_cases hb10 : l2 = 3
  · replace h := sw_ifY hb10 h
    refine ga_cneY (t := 48) qd160_38 e9 hb10 rfl ?_
    refine go_l qd160_41 rfl ?_
    obtain ⟨r12, e11, h⟩ := sw_bind h
    refine ga_kv (a := 221) (as := []) (rest := []) qd160_42 qk160_171 (sw_sl hn (by decide)) rfl rfl rfl (Nat.le_of_ble_eq_true rfl) (Nat.le_of_ble_eq_true rfl) rfl (A122 hn e11 (sw_bkv ?_))
    refine ga_jp (t := 56) qd160_45 rfl ?_
    refine go_l (L' := [some (.ref (z + 221)), some (.int (Int32.ofInt l1)), some (.int (Int32.ofInt l2)), some (.int (Int32.ofInt s0)), some (.int (Int32.ofInt r6)), some (.int (Int32.ofInt r12))]) (st' := []) qd160_56 rfl ?_
    refine go_l qd160_58 rfl ?_
    obtain ⟨r14, e13, h⟩ := sw_bind h
    refine ga_kv (a := 221) (as := []) (rest := []) qd160_59 qk160_183 (sw_sl hn (by decide)) rfl rfl rfl (Nat.le_of_ble_eq_true rfl) (Nat.le_of_ble_eq_true rfl) rfl (A107 hn e13 (sw_bk0 ?_))
    refine go_l qd160_62 rfl ?_
    rw [← sw_sj h] at kk
    exact ga_ri qd160_64 qr160 kk
  · replace h := sw_ifN hb10 h
    refine ga_cneN (t := 48) qd160_38 e9 hb10 rfl ?_
    refine go_l qd160_48 rfl ?_
    refine go_l qd160_49 rfl ?_
    obtain ⟨r16, e15, h⟩ := sw_bind h
    refine ga_kv (a := 221) (as := [.int (Int32.ofInt s0)]) (rest := []) qd160_50 qk160_122 (sw_sl hn (by decide)) rfl rfl rfl (Nat.le_of_ble_eq_true rfl) (Nat.le_of_ble_eq_true rfl) rfl (A121 hn e15 (sw_bkv ?_))
    refine go_l qd160_53 rfl ?_
    refine ga_isub qd160_55 ?_
    refine go_l (L' := [some (.ref (z + 221)), some (.int (Int32.ofInt l1)), some (.int (Int32.ofInt l2)), some (.int (Int32.ofInt s0)), some (.int (Int32.ofInt r6)), some (.int (Int32.ofInt (r16 - r6)))]) (st' := []) qd160_56 rfl ?_
    refine go_l qd160_58 rfl ?_
    obtain ⟨r18, e17, h⟩ := sw_bind h
    refine ga_kv (a := 221) (as := []) (rest := []) qd160_59 qk160_183 (sw_sl hn (by decide)) rfl rfl rfl (Nat.le_of_ble_eq_true rfl) (Nat.le_of_ble_eq_true rfl) rfl (A107 hn e17 (sw_bk0 ?_))
    refine go_l qd160_62 rfl ?_
    rw [← sw_sj h] at kk
    exact ga_ri qd160_64 qr160 kk
def w160 (T : sw_T) (p1 : Int) (p2 : Int) : Option (Int × sw_T) :=
  (sw_r1 p2).bind fun _u =>
  if p2 = 0 then
    w160_19 T p1 p2 4
  else
    (sw_r2 p2 1).bind fun _u =>
    if p2 = 1 then
      w160_19 T p1 p2 5
    else
      w160_19 T p1 p2 7
theorem A160 {G : sp_G} {z n : Nat} (hn : 228 ≤ n) {T : sw_T} {K : sw_K} {p1 : Int} {p2 : Int} {res : Int × sw_T} {Q : sp_R → sp_M → Prop} (h : w160 T p1 p2 = some res) (kk : Q (.inl (some (.int (Int32.ofInt res.1)))) (sw_M z n sw_Ft res.2 K)) : sq_go G 160 0 [some (.ref (z + 221)), some (.int (Int32.ofInt p1)), some (.int (Int32.ofInt p2)), none, none, none] [] (sw_M z n sw_Ft T K) Q := by
  unfold w160 at h
  refine go_l qd160_0 rfl ?_
  obtain ⟨_u, e1, h⟩ := sw_bind h
  by_cases hb2 : p2 = 0
  · replace h := sw_ifY hb2 h
    refine ga_zneY (t := 8) qd160_1 e1 hb2 rfl ?_
    refine go_s qd160_4 rfl ?_
    refine ga_jp (t := 19) qd160_5 rfl ?_
    exact sq_weak (L := [some (.ref (z + 221)), some (.int (Int32.ofInt p1)), some (.int (Int32.ofInt p2)), none, none, none]) ⟨rfl, rfl, rfl, trivial⟩ (B160_19 hn h kk)
  · replace h := sw_ifN hb2 h
    refine ga_zneN (t := 8) qd160_1 e1 hb2 rfl ?_
    refine go_l qd160_8 rfl ?_
    refine go_s qd160_9 rfl ?_
    obtain ⟨_u, e19, h⟩ := sw_bind h
    by_cases hb20 : p2 = 1
    · replace h := sw_ifY hb20 h
      refine ga_cneY (t := 17) qd160_10 e19 hb20 rfl ?_
      refine go_s qd160_13 rfl ?_
      refine ga_jp (t := 19) qd160_14 rfl ?_
      exact sq_weak (L := [some (.ref (z + 221)), some (.int (Int32.ofInt p1)), some (.int (Int32.ofInt p2)), none, none, none]) ⟨rfl, rfl, rfl, trivial⟩ (B160_19 hn h kk)
    · replace h := sw_ifN hb20 h
      refine ga_cneN (t := 17) qd160_10 e19 hb20 rfl ?_
      refine ga_k8 qd160_17 rfl ?_
      exact sq_weak (L := [some (.ref (z + 221)), some (.int (Int32.ofInt p1)), some (.int (Int32.ofInt p2)), none, none, none]) ⟨rfl, rfl, rfl, trivial⟩ (B160_19 hn h kk)
theorem qc161 : sq_c 161 = 6 := by decide +kernel
theorem qk161_36 : sw_ck 161 36 96 1 3 6 3 = true := by decide +kernel
theorem qk161_103 : sw_ck 161 103 97 0 1 6 2 = true := by decide +kernel
theorem qr161 : sq_ret 161 = some .int := by decide +kernel
theorem qk161_190 : sw_ck 161 190 160 0 2 6 6 = true := by decide +kernel
-- 161: SewingPilesModel.ifPassed(II)I
def w161 (T : sw_T) (p1 : Int) (p2 : Int) : Option (Int × sw_T) :=
  (sw_pf T 221 0 0).bind fun T1 =>
  (w96 T1 p1 1 200).bind fun r4 =>
  (sw_r1 r4).bind fun _u =>
  if r4 = 0 then
    (w97 T1 1).bind fun r8 =>
    some ((r8.1, r8.2))
  else
    (w96 T1 p2 0 3).bind fun r10 =>
    (sw_r1 r10).bind fun _u =>
    if r10 = 0 then
      (w97 T1 1).bind fun r14 =>
      some ((r14.1, r14.2))
    else
      (w160 T1 p1 p2).bind fun r16 =>
      some ((r16.1, r16.2))
theorem A161 {G : sp_G} {z n : Nat} (hn : 228 ≤ n) {T : sw_T} {K : sw_K} {p1 : Int} {p2 : Int} {res : Int × sw_T} {Q : sp_R → sp_M → Prop} (h : w161 T p1 p2 = some res) (kk : Q (.inl (some (.int (Int32.ofInt res.1)))) (sw_M z n sw_Ft res.2 K)) : sq_go G 161 0 [some (.ref (z + 221)), some (.int (Int32.ofInt p1)), some (.int (Int32.ofInt p2))] [] (sw_M z n sw_Ft T K) Q := by
  unfold w161 at h
  refine go_l qd161_0 rfl ?_
  refine go_s qd161_1 rfl ?_
  obtain ⟨T1, e2, h⟩ := sw_bind h
  refine ga_pfi qd161_2 qc161 qg6_28 (sw_sl hn (by decide)) rfl qi6_0 e2 ?_
  refine go_l qd161_5 rfl ?_
  refine go_s qd161_6 rfl ?_
  refine ga_k16 qd161_7 rfl ?_
  obtain ⟨r4, e3, h⟩ := sw_bind h
  refine ga_kS (as := [.int (Int32.ofInt p1), .int (Int32.ofInt 1), .int (Int32.ofInt 200)]) (rest := []) qd161_10 qk161_36 rfl rfl (Nat.le_of_ble_eq_true rfl) (Nat.le_of_ble_eq_true rfl) rfl (A96 hn e3 (sw_bkv ?_))
  obtain ⟨_u, e5, h⟩ := sw_bind h
  by_cases hb6 : r4 = 0
  · replace h := sw_ifY hb6 h
    refine ga_zeqY (t := 34) qd161_13 e5 hb6 rfl ?_
    refine go_l qd161_34 rfl ?_
    refine go_s qd161_35 rfl ?_
    obtain ⟨r8, e7, h⟩ := sw_bind h
    refine ga_kv (a := 221) (as := [.int (Int32.ofInt 1)]) (rest := []) qd161_36 qk161_103 (sw_sl hn (by decide)) rfl rfl rfl (Nat.le_of_ble_eq_true rfl) (Nat.le_of_ble_eq_true rfl) rfl (A97 hn e7 (sw_bkv ?_))
    rw [← sw_sj h] at kk
    exact ga_ri qd161_39 qr161 kk
  · replace h := sw_ifN hb6 h
    refine ga_zeqN (t := 34) qd161_13 e5 hb6 rfl ?_
    refine go_l qd161_16 rfl ?_
    refine go_s qd161_17 rfl ?_
    refine go_s qd161_18 rfl ?_
    obtain ⟨r10, e9, h⟩ := sw_bind h
    refine ga_kS (as := [.int (Int32.ofInt p2), .int (Int32.ofInt 0), .int (Int32.ofInt 3)]) (rest := []) qd161_19 qk161_36 rfl rfl (Nat.le_of_ble_eq_true rfl) (Nat.le_of_ble_eq_true rfl) rfl (A96 hn e9 (sw_bkv ?_))
    obtain ⟨_u, e11, h⟩ := sw_bind h
    by_cases hb12 : r10 = 0
    · replace h := sw_ifY hb12 h
      refine ga_zeqY (t := 34) qd161_22 e11 hb12 rfl ?_
      refine go_l qd161_34 rfl ?_
      refine go_s qd161_35 rfl ?_
      obtain ⟨r14, e13, h⟩ := sw_bind h
      refine ga_kv (a := 221) (as := [.int (Int32.ofInt 1)]) (rest := []) qd161_36 qk161_103 (sw_sl hn (by decide)) rfl rfl rfl (Nat.le_of_ble_eq_true rfl) (Nat.le_of_ble_eq_true rfl) rfl (A97 hn e13 (sw_bkv ?_))
      rw [← sw_sj h] at kk
      exact ga_ri qd161_39 qr161 kk
    · replace h := sw_ifN hb12 h
      refine ga_zeqN (t := 34) qd161_22 e11 hb12 rfl ?_
      refine go_l qd161_25 rfl ?_
      refine go_l qd161_26 rfl ?_
      refine go_l qd161_27 rfl ?_
      obtain ⟨r16, e15, h⟩ := sw_bind h
      refine ga_kv (a := 221) (as := [.int (Int32.ofInt p1), .int (Int32.ofInt p2)]) (rest := []) qd161_28 qk161_190 (sw_sl hn (by decide)) rfl rfl rfl (Nat.le_of_ble_eq_true rfl) (Nat.le_of_ble_eq_true rfl) rfl (A160 hn e15 (sw_bkv ?_))
      refine ga_jp (t := 39) qd161_31 rfl ?_
      rw [← sw_sj h] at kk
      exact ga_ri qd161_39 qr161 kk
theorem qc162 : sq_c 162 = 6 := by decide +kernel
theorem qr162 : sq_ret 162 = some .double := by decide +kernel
theorem qk162_122 : sw_ck 162 122 121 0 1 6 4 = true := by decide +kernel
-- 162: SewingPilesModel.share()D
def w162 (T : sw_T) : Option (UInt64) :=
  (sw_ld T 222 543 7).bind fun v2 =>
  (sw_r1 v2).bind fun _u =>
  if v2 = 0 then
    some ((sp_dc 0))
  else
    (w121 T 5).bind fun r6 =>
    (sw_ld T 222 543 7).bind fun v8 =>
    (sw_k64 (FP.ddiv (FP.i2d (Int32.ofInt r6)) (FP.i2d (Int32.ofInt v8)))).bind fun _u =>
    some ((FP.ddiv (FP.i2d (Int32.ofInt r6)) (FP.i2d (Int32.ofInt v8))))
theorem A162 {G : sp_G} {z n : Nat} (hn : 228 ≤ n) {T : sw_T} {K : sw_K} {res : UInt64} {Q : sp_R → sp_M → Prop} (h : w162 T = some res) (kk : Q (.inl (some (.double res))) (sw_M z n sw_Ft T K)) : sq_go G 162 0 [some (.ref (z + 221))] [] (sw_M z n sw_Ft T K) Q := by
  unfold w162 at h
  refine go_l qd162_0 rfl ?_
  refine ga_gf (v := .ref (z + 222)) qd162_1 qc162 qf6_7 (sw_sl hn (by decide)) rfl rfl ?_
  refine ga_k8 qd162_4 rfl ?_
  obtain ⟨v2, e1, h⟩ := sw_bind h
  refine ga_iald qd162_6 (sw_sl hn (by decide)) e1 ?_
  obtain ⟨_u, e3, h⟩ := sw_bind h
  by_cases hb4 : v2 = 0
  · replace h := sw_ifY hb4 h
    refine ga_zneY (t := 14) qd162_7 e3 hb4 rfl ?_
    refine go_s qd162_10 rfl ?_
    refine ga_jp (t := 29) qd162_11 rfl ?_
    rw [← sw_sj h] at kk
    exact ga_rd qd162_29 qr162 kk
  · replace h := sw_ifN hb4 h
    refine ga_zneN (t := 14) qd162_7 e3 hb4 rfl ?_
    refine go_l qd162_14 rfl ?_
    refine go_s qd162_15 rfl ?_
    obtain ⟨r6, e5, h⟩ := sw_bind h
    refine ga_kv (a := 221) (as := [.int (Int32.ofInt 5)]) (rest := []) qd162_16 qk162_122 (sw_sl hn (by decide)) rfl rfl rfl (Nat.le_of_ble_eq_true rfl) (Nat.le_of_ble_eq_true rfl) rfl (A121 hn e5 (sw_bkv ?_))
    refine go_s qd162_19 rfl ?_
    refine go_l qd162_20 rfl ?_
    refine ga_gf (v := .ref (z + 222)) qd162_21 qc162 qf6_7 (sw_sl hn (by decide)) rfl rfl ?_
    refine ga_k8 qd162_24 rfl ?_
    obtain ⟨v8, e7, h⟩ := sw_bind h
    refine ga_iald qd162_26 (sw_sl hn (by decide)) e7 ?_
    refine go_s qd162_27 rfl ?_
    obtain ⟨_u, e9, h⟩ := sw_bind h
    refine ga_ddiv qd162_28 e9 ?_
    rw [← sw_sj h] at kk
    exact ga_rd qd162_29 qr162 kk
theorem qc163 : sq_c 163 = 6 := by decide +kernel
theorem qk163_193 : sw_ck 163 193 162 0 0 6 1 = true := by decide +kernel
theorem qr163 : sq_ret 163 = some .double := by decide +kernel
-- 163: SewingPilesModel.takenShare()D
def w163 (T : sw_T) : Option (UInt64 × sw_T) :=
  (sw_pf T 221 0 0).bind fun T1 =>
  (w162 T1).bind fun r4 =>
  some ((r4, T1))
theorem A163 {G : sp_G} {z n : Nat} (hn : 228 ≤ n) {T : sw_T} {K : sw_K} {res : UInt64 × sw_T} {Q : sp_R → sp_M → Prop} (h : w163 T = some res) (kk : Q (.inl (some (.double res.1))) (sw_M z n sw_Ft res.2 K)) : sq_go G 163 0 [some (.ref (z + 221))] [] (sw_M z n sw_Ft T K) Q := by
  unfold w163 at h
  refine go_l qd163_0 rfl ?_
  refine go_s qd163_1 rfl ?_
  obtain ⟨T1, e2, h⟩ := sw_bind h
  refine ga_pfi qd163_2 qc163 qg6_28 (sw_sl hn (by decide)) rfl qi6_0 e2 ?_
  refine go_l qd163_5 rfl ?_
  obtain ⟨r4, e3, h⟩ := sw_bind h
  refine ga_kv (a := 221) (as := []) (rest := []) qd163_6 qk163_193 (sw_sl hn (by decide)) rfl rfl rfl (Nat.le_of_ble_eq_true rfl) (Nat.le_of_ble_eq_true rfl) rfl (A162 hn e3 (sw_bkv ?_))
  rw [← sw_sj h] at kk
  exact ga_rd qd163_9 qr163 kk
theorem qk164_162 : sw_ck 164 162 146 0 1 6 4 = true := by decide +kernel
theorem qc164 : sq_c 164 = 6 := by decide +kernel
theorem qr164 : sq_ret 164 = some .float := by decide +kernel
-- 164: SewingPilesModel.even()F
def w164_14 (T : sw_T) : Nat → Int → Int → Int → Option (Int × Int)
  | 0, _, _, _ => none
  | m + 1, l1, l2, l3 =>
    (sw_ld T 222 543 4).bind fun v6 =>
    (sw_r2 l3 v6).bind fun _u =>
    if l3 < v6 then
      (w146 T l3).bind fun r10 =>
      (sw_r2 r10 l1).bind fun _u =>
      if r10 < l1 then
        (w146 T l3).bind fun r14 =>
        (w146 T l3).bind fun r16 =>
        (sw_r2 r16 l2).bind fun _u =>
        if l2 < r16 then
          (w146 T l3).bind fun r20 =>
          w164_14 T m r14 r20 (l3 + 1)
        else
          w164_14 T m r14 l2 (l3 + 1)
      else
        (w146 T l3).bind fun r22 =>
        (sw_r2 r22 l2).bind fun _u =>
        if l2 < r22 then
          (w146 T l3).bind fun r26 =>
          w164_14 T m l1 r26 (l3 + 1)
        else
          w164_14 T m l1 l2 (l3 + 1)
    else
      some ((l1, l2))
theorem B164_14 {G : sp_G} {z n : Nat} (hn : 228 ≤ n) {T : sw_T} {K : sw_K} {res : Int × Int} {Q : sp_R → sp_M → Prop} (kk : sq_go G 164 68 [none, some (.int (Int32.ofInt res.1)), some (.int (Int32.ofInt res.2)), none] [] (sw_M z n sw_Ft T K) Q) : ∀ (m : Nat) (l1 : Int) (l2 : Int) (l3 : Int), w164_14 T m l1 l2 l3 = some res → sq_go G 164 14 [some (.ref (z + 221)), some (.int (Int32.ofInt l1)), some (.int (Int32.ofInt l2)), some (.int (Int32.ofInt l3))] [] (sw_M z n sw_Ft T K) Q := by
  intro m
  induction m with
  | zero => intro l1 l2 l3 h; cases h
  | succ m ih =>
    intro l1 l2 l3 h
    rw [w164_14] at h
    refine go_l qd164_14 rfl ?_
    refine go_l qd164_15 rfl ?_
    refine ga_gf (v := .ref (z + 222)) qd164_16 qc164 qf6_7 (sw_sl hn (by decide)) rfl rfl ?_
    refine go_s qd164_19 rfl ?_
    obtain ⟨v6, e5, h⟩ := sw_bind h
    refine ga_iald qd164_20 (sw_sl hn (by decide)) e5 ?_
    obtain ⟨_u, e7, h⟩ := sw_bind h
    by_cases hb8 : l3 < v6
    · replace h := sw_ifY hb8 h
      refine ga_cgeY (t := 68) qd164_21 e7 hb8 rfl ?_
      refine go_l qd164_24 rfl ?_
      refine go_l qd164_25 rfl ?_
      obtain ⟨r10, e9, h⟩ := sw_bind h
      refine ga_kv (a := 221) (as := [.int (Int32.ofInt l3)]) (rest := []) qd164_26 qk164_162 (sw_sl hn (by decide)) rfl rfl rfl (Nat.le_of_ble_eq_true rfl) (Nat.le_of_ble_eq_true rfl) rfl (A146 hn e9 (sw_bkv ?_))
      refine go_l qd164_29 rfl ?_
      obtain ⟨_u, e11, h⟩ := sw_bind h
      by_cases hb12 : r10 < l1
      · replace h := sw_ifY hb12 h
        refine ga_cgeY (t := 41) qd164_30 e11 hb12 rfl ?_
        refine go_l qd164_33 rfl ?_
        refine go_l qd164_34 rfl ?_
        obtain ⟨r14, e13, h⟩ := sw_bind h
        refine ga_kv (a := 221) (as := [.int (Int32.ofInt l3)]) (rest := []) qd164_35 qk164_162 (sw_sl hn (by decide)) rfl rfl rfl (Nat.le_of_ble_eq_true rfl) (Nat.le_of_ble_eq_true rfl) rfl (A146 hn e13 (sw_bkv ?_))
        refine ga_jp (t := 42) qd164_38 rfl ?_
        refine go_l (L' := [some (.ref (z + 221)), some (.int (Int32.ofInt r14)), some (.int (Int32.ofInt l2)), some (.int (Int32.ofInt l3))]) (st' := []) qd164_42 rfl ?_
        refine go_l qd164_43 rfl ?_
        refine go_l qd164_44 rfl ?_
        obtain ⟨r16, e15, h⟩ := sw_bind h
        refine ga_kv (a := 221) (as := [.int (Int32.ofInt l3)]) (rest := []) qd164_45 qk164_162 (sw_sl hn (by decide)) rfl rfl rfl (Nat.le_of_ble_eq_true rfl) (Nat.le_of_ble_eq_true rfl) rfl (A146 hn e15 (sw_bkv ?_))
        refine go_l qd164_48 rfl ?_
        obtain ⟨_u, e17, h⟩ := sw_bind h
        by_cases hb18 : l2 < r16
        · replace h := sw_ifY hb18 h
          refine ga_cleY (t := 60) qd164_49 e17 hb18 rfl ?_
          refine go_l qd164_52 rfl ?_
          refine go_l qd164_53 rfl ?_
          obtain ⟨r20, e19, h⟩ := sw_bind h
          refine ga_kv (a := 221) (as := [.int (Int32.ofInt l3)]) (rest := []) qd164_54 qk164_162 (sw_sl hn (by decide)) rfl rfl rfl (Nat.le_of_ble_eq_true rfl) (Nat.le_of_ble_eq_true rfl) rfl (A146 hn e19 (sw_bkv ?_))
          refine ga_jp (t := 61) qd164_57 rfl ?_
          refine go_l (L' := [some (.ref (z + 221)), some (.int (Int32.ofInt r14)), some (.int (Int32.ofInt r20)), some (.int (Int32.ofInt l3))]) (st' := []) qd164_61 rfl ?_
          refine ga_ii (L' := [some (.ref (z + 221)), some (.int (Int32.ofInt r14)), some (.int (Int32.ofInt r20)), some (.int (Int32.ofInt (l3 + 1)))]) qd164_62 rfl rfl ?_
          refine ga_jp (t := 14) qd164_65 rfl ?_
          exact sq_weak (L := [some (.ref (z + 221)), some (.int (Int32.ofInt r14)), some (.int (Int32.ofInt r20)), some (.int (Int32.ofInt (l3 + 1)))]) ⟨rfl, rfl, rfl, rfl, trivial⟩ (ih _ _ _ h)
        · replace h := sw_ifN hb18 h
          refine ga_cleN (t := 60) qd164_49 e17 hb18 rfl ?_
          refine go_l qd164_60 rfl ?_
          refine go_l (L' := [some (.ref (z + 221)), some (.int (Int32.ofInt r14)), some (.int (Int32.ofInt l2)), some (.int (Int32.ofInt l3))]) (st' := []) qd164_61 rfl ?_
          refine ga_ii (L' := [some (.ref (z + 221)), some (.int (Int32.ofInt r14)), some (.int (Int32.ofInt l2)), some (.int (Int32.ofInt (l3 + 1)))]) qd164_62 rfl rfl ?_
          refine ga_jp (t := 14) qd164_65 rfl ?_
          exact sq_weak (L := [some (.ref (z + 221)), some (.int (Int32.ofInt r14)), some (.int (Int32.ofInt l2)), some (.int (Int32.ofInt (l3 + 1)))]) ⟨rfl, rfl, rfl, rfl, trivial⟩ (ih _ _ _ h)
      · replace h := sw_ifN hb12 h
        refine ga_cgeN (t := 41) qd164_30 e11 hb12 rfl ?_
        refine go_l qd164_41 rfl ?_
        refine go_l (L' := [some (.ref (z + 221)), some (.int (Int32.ofInt l1)), some (.int (Int32.ofInt l2)), some (.int (Int32.ofInt l3))]) (st' := []) qd164_42 rfl ?_
        refine go_l qd164_43 rfl ?_
        refine go_l qd164_44 rfl ?_
        obtain ⟨r22, e21, h⟩ := sw_bind h
        refine ga_kv (a := 221) (as := [.int (Int32.ofInt l3)]) (rest := []) qd164_45 qk164_162 (sw_sl hn (by decide)) rfl rfl rfl (Nat.le_of_ble_eq_true rfl) (Nat.le_of_ble_eq_true rfl) rfl (A146 hn e21 (sw_bkv ?_))
        refine go_l qd164_48 rfl ?_
        obtain ⟨_u, e23, h⟩ := sw_bind h
        by_cases hb24 : l2 < r22
        · replace h := sw_ifY hb24 h
          refine ga_cleY (t := 60) qd164_49 e23 hb24 rfl ?_
          refine go_l qd164_52 rfl ?_
          refine go_l qd164_53 rfl ?_
          obtain ⟨r26, e25, h⟩ := sw_bind h
          refine ga_kv (a := 221) (as := [.int (Int32.ofInt l3)]) (rest := []) qd164_54 qk164_162 (sw_sl hn (by decide)) rfl rfl rfl (Nat.le_of_ble_eq_true rfl) (Nat.le_of_ble_eq_true rfl) rfl (A146 hn e25 (sw_bkv ?_))
          refine ga_jp (t := 61) qd164_57 rfl ?_
          refine go_l (L' := [some (.ref (z + 221)), some (.int (Int32.ofInt l1)), some (.int (Int32.ofInt r26)), some (.int (Int32.ofInt l3))]) (st' := []) qd164_61 rfl ?_
          refine ga_ii (L' := [some (.ref (z + 221)), some (.int (Int32.ofInt l1)), some (.int (Int32.ofInt r26)), some (.int (Int32.ofInt (l3 + 1)))]) qd164_62 rfl rfl ?_
          refine ga_jp (t := 14) qd164_65 rfl ?_
          exact sq_weak (L := [some (.ref (z + 221)), some (.int (Int32.ofInt l1)), some (.int (Int32.ofInt r26)), some (.int (Int32.ofInt (l3 + 1)))]) ⟨rfl, rfl, rfl, rfl, trivial⟩ (ih _ _ _ h)
        · replace h := sw_ifN hb24 h
          refine ga_cleN (t := 60) qd164_49 e23 hb24 rfl ?_
          refine go_l qd164_60 rfl ?_
          refine go_l (L' := [some (.ref (z + 221)), some (.int (Int32.ofInt l1)), some (.int (Int32.ofInt l2)), some (.int (Int32.ofInt l3))]) (st' := []) qd164_61 rfl ?_
          refine ga_ii (L' := [some (.ref (z + 221)), some (.int (Int32.ofInt l1)), some (.int (Int32.ofInt l2)), some (.int (Int32.ofInt (l3 + 1)))]) qd164_62 rfl rfl ?_
          refine ga_jp (t := 14) qd164_65 rfl ?_
          exact sq_weak (L := [some (.ref (z + 221)), some (.int (Int32.ofInt l1)), some (.int (Int32.ofInt l2)), some (.int (Int32.ofInt (l3 + 1)))]) ⟨rfl, rfl, rfl, rfl, trivial⟩ (ih _ _ _ h)
    · replace h := sw_ifN hb8 h
      refine ga_cgeN (t := 68) qd164_21 e7 hb8 rfl ?_
      rw [← sw_sj h] at kk
      exact sq_weak (L := [none, some (.int (Int32.ofInt l1)), some (.int (Int32.ofInt l2)), none]) ⟨rfl, rfl, trivial⟩ kk
def w164 (T : sw_T) : Option (UInt32) :=
  (w146 T 0).bind fun r2 =>
  (w146 T 0).bind fun r4 =>
  (w164_14 T sw_N r2 r4 1).bind fun x27 =>
  (sw_r1 x27.2).bind fun _u =>
  if x27.2 = 0 then
    some ((sp_fc 1))
  else
    (sw_k32 (FP.fdiv (FP.i2f (Int32.ofInt x27.1)) (FP.i2f (Int32.ofInt x27.2)))).bind fun _u =>
    some ((FP.fdiv (FP.i2f (Int32.ofInt x27.1)) (FP.i2f (Int32.ofInt x27.2))))
theorem A164 {G : sp_G} {z n : Nat} (hn : 228 ≤ n) {T : sw_T} {K : sw_K} {res : UInt32} {Q : sp_R → sp_M → Prop} (h : w164 T = some res) (kk : Q (.inl (some (.float res))) (sw_M z n sw_Ft T K)) : sq_go G 164 0 [some (.ref (z + 221)), none, none, none] [] (sw_M z n sw_Ft T K) Q := by
  unfold w164 at h
  refine go_l qd164_0 rfl ?_
  refine go_s qd164_1 rfl ?_
  obtain ⟨r2, e1, h⟩ := sw_bind h
  refine ga_kv (a := 221) (as := [.int (Int32.ofInt 0)]) (rest := []) qd164_2 qk164_162 (sw_sl hn (by decide)) rfl rfl rfl (Nat.le_of_ble_eq_true rfl) (Nat.le_of_ble_eq_true rfl) rfl (A146 hn e1 (sw_bkv ?_))
  refine go_l (L' := [some (.ref (z + 221)), some (.int (Int32.ofInt r2)), none, none]) (st' := []) qd164_5 rfl ?_
  refine go_l qd164_6 rfl ?_
  refine go_s qd164_7 rfl ?_
  obtain ⟨r4, e3, h⟩ := sw_bind h
  refine ga_kv (a := 221) (as := [.int (Int32.ofInt 0)]) (rest := []) qd164_8 qk164_162 (sw_sl hn (by decide)) rfl rfl rfl (Nat.le_of_ble_eq_true rfl) (Nat.le_of_ble_eq_true rfl) rfl (A146 hn e3 (sw_bkv ?_))
  refine go_l (L' := [some (.ref (z + 221)), some (.int (Int32.ofInt r2)), some (.int (Int32.ofInt r4)), none]) (st' := []) qd164_11 rfl ?_
  refine go_s qd164_12 rfl ?_
  refine go_l (L' := [some (.ref (z + 221)), some (.int (Int32.ofInt r2)), some (.int (Int32.ofInt r4)), some (.int (Int32.ofInt 1))]) (st' := []) qd164_13 rfl ?_
  obtain ⟨x27, e28, h⟩ := sw_bind h
  refine sq_weak (L := [some (.ref (z + 221)), some (.int (Int32.ofInt r2)), some (.int (Int32.ofInt r4)), some (.int (Int32.ofInt 1))]) ⟨rfl, rfl, rfl, rfl, trivial⟩ (B164_14 hn (res := x27) ?_ _ _ _ _ e28)
  refine go_l qd164_68 rfl ?_
  obtain ⟨_u, e29, h⟩ := sw_bind h
  by_cases hb30 : x27.2 = 0
  · replace h := sw_ifY hb30 h
    refine ga_zneY (t := 76) qd164_69 e29 hb30 rfl ?_
    refine go_s qd164_72 rfl ?_
    refine ga_jp (t := 81) qd164_73 rfl ?_
    rw [← sw_sj h] at kk
    exact ga_rf qd164_81 qr164 kk
  · replace h := sw_ifN hb30 h
    refine ga_zneN (t := 76) qd164_69 e29 hb30 rfl ?_
    refine go_l qd164_76 rfl ?_
    refine go_s qd164_77 rfl ?_
    refine go_l qd164_78 rfl ?_
    refine go_s qd164_79 rfl ?_
    obtain ⟨_u, e31, h⟩ := sw_bind h
    refine ga_fdiv qd164_80 e31 ?_
    rw [← sw_sj h] at kk
    exact ga_rf qd164_81 qr164 kk
theorem qc165 : sq_c 165 = 6 := by decide +kernel
theorem qk165_197 : sw_ck 165 197 164 0 0 6 4 = true := by decide +kernel
theorem qr165 : sq_ret 165 = some .float := by decide +kernel
-- 165: SewingPilesModel.evenness()F
def w165 (T : sw_T) : Option (UInt32 × sw_T) :=
  (sw_pf T 221 0 0).bind fun T1 =>
  (w164 T1).bind fun r4 =>
  some ((r4, T1))
theorem A165 {G : sp_G} {z n : Nat} (hn : 228 ≤ n) {T : sw_T} {K : sw_K} {res : UInt32 × sw_T} {Q : sp_R → sp_M → Prop} (h : w165 T = some res) (kk : Q (.inl (some (.float res.1))) (sw_M z n sw_Ft res.2 K)) : sq_go G 165 0 [some (.ref (z + 221))] [] (sw_M z n sw_Ft T K) Q := by
  unfold w165 at h
  refine go_l qd165_0 rfl ?_
  refine go_s qd165_1 rfl ?_
  obtain ⟨T1, e2, h⟩ := sw_bind h
  refine ga_pfi qd165_2 qc165 qg6_28 (sw_sl hn (by decide)) rfl qi6_0 e2 ?_
  refine go_l qd165_5 rfl ?_
  obtain ⟨r4, e3, h⟩ := sw_bind h
  refine ga_kv (a := 221) (as := []) (rest := []) qd165_6 qk165_197 (sw_sl hn (by decide)) rfl rfl rfl (Nat.le_of_ble_eq_true rfl) (Nat.le_of_ble_eq_true rfl) rfl (A164 hn e3 (sw_bkv ?_))
  rw [← sw_sj h] at kk
  exact ga_rf qd165_9 qr165 kk
theorem qc166 : sq_c 166 = 6 := by decide +kernel
theorem ql6_201 : sp_fd sp_clT 6 201 = some 31 := by decide +kernel
theorem qf6_203 : (sp_fd sp_flT 6 203).or (sp_fd sp_fnT 6 203) = some (6, 14) := by decide +kernel
theorem qg6_203 : sp_fd sp_flT 6 203 = some (6, 14) := by decide +kernel
theorem qr166 : sq_ret 166 = none := by decide +kernel
-- 166: SewingPilesModel.hashes(J)V
def w166 (T : sw_T) (p1 : Int) : Option (sw_T) :=
  (sw_pf T 221 14 ((31 * (T 221 14)) + p1)).bind fun T1 =>
  some (T1)
theorem A166 {G : sp_G} {z n : Nat} (hn : 228 ≤ n) {T : sw_T} {K : sw_K} {p1 : Int} {res : sw_T} {Q : sp_R → sp_M → Prop} (h : w166 T p1 = some res) (kk : Q (.inl none) (sw_M z n sw_Ft res K)) : sq_go G 166 0 [some (.ref (z + 221)), some (.long (Int64.ofInt p1)), none] [] (sw_M z n sw_Ft T K) Q := by
  unfold w166 at h
  refine go_l qd166_0 rfl ?_
  refine ga_k64 (u := 31) qd166_1 qc166 ql6_201 rfl ?_
  refine go_l qd166_4 rfl ?_
  refine ga_gf (v := .long (Int64.ofInt (T 221 14))) qd166_5 qc166 qf6_203 (sw_sl hn (by decide)) rfl rfl ?_
  refine ga_lmul qd166_8 ?_
  refine go_l qd166_9 rfl ?_
  refine ga_ladd qd166_10 ?_
  obtain ⟨T1, e2, h⟩ := sw_bind h
  refine ga_pfl qd166_11 qc166 qg6_203 (sw_sl hn (by decide)) rfl qi6_14 e2 ?_
  rw [← sw_sj h] at kk
  exact ga_rv qd166_14 qr166 kk
theorem qk167_165 : sw_ck 167 165 147 0 2 6 3 = true := by decide +kernel
theorem qk167_207 : sw_ck 167 207 166 0 1 6 3 = true := by decide +kernel
theorem qk167_43 : sw_ck 167 43 98 0 2 6 3 = true := by decide +kernel
theorem qk167_63 : sw_ck 167 63 101 0 2 6 3 = true := by decide +kernel
theorem qk167_80 : sw_ck 167 80 115 0 1 6 5 = true := by decide +kernel
theorem qr167 : sq_ret 167 = none := by decide +kernel
-- 167: SewingPilesModel.hashesWho(I)V
def w167_2 (l1 : Int) : Nat → sw_T → Int → Option (sw_T)
  | 0, _, _ => none
  | m + 1, T, l2 =>
    (sw_r2 l2 10).bind fun _u =>
    if l2 < 10 then
      (w147 T l1 l2).bind fun r4 =>
      (sw_r1 r4).bind fun _u =>
      (w166 T r4).bind fun r7 =>
      w167_2 l1 m r7 (l2 + 1)
    else
      some (T)
theorem B167_2 {G : sp_G} {z n : Nat} (hn : 228 ≤ n) {l1 : Int} {K : sw_K} {res : sw_T} {Q : sp_R → sp_M → Prop} (kk : sq_go G 167 25 [some (.ref (z + 221)), some (.int (Int32.ofInt l1)), none] [] (sw_M z n sw_Ft res K) Q) : ∀ (m : Nat) (T : sw_T) (l2 : Int), w167_2 l1 m T l2 = some res → sq_go G 167 2 [some (.ref (z + 221)), some (.int (Int32.ofInt l1)), some (.int (Int32.ofInt l2))] [] (sw_M z n sw_Ft T K) Q := by
  intro m
  induction m with
  | zero => intro T l2 h; cases h
  | succ m ih =>
    intro T l2 h
    rw [w167_2] at h
    refine go_l qd167_2 rfl ?_
    refine ga_k8 qd167_3 rfl ?_
    obtain ⟨_u, e1, h⟩ := sw_bind h
    by_cases hb2 : l2 < 10
    · replace h := sw_ifY hb2 h
      refine ga_cgeY (t := 25) qd167_5 e1 hb2 rfl ?_
      refine go_l qd167_8 rfl ?_
      refine go_l qd167_9 rfl ?_
      refine go_l qd167_10 rfl ?_
      refine go_l qd167_11 rfl ?_
      obtain ⟨r4, e3, h⟩ := sw_bind h
      refine ga_kv (a := 221) (as := [.int (Int32.ofInt l1), .int (Int32.ofInt l2)]) (rest := [.ref (z + 221)]) qd167_12 qk167_165 (sw_sl hn (by decide)) rfl rfl rfl (Nat.le_of_ble_eq_true rfl) (Nat.le_of_ble_eq_true rfl) rfl (A147 hn e3 (sw_bkv ?_))
      obtain ⟨_u, e5, h⟩ := sw_bind h
      refine ga_i2l qd167_15 e5 ?_
      obtain ⟨r7, e6, h⟩ := sw_bind h
      refine ga_kv (a := 221) (as := [.long (Int64.ofInt r4)]) (rest := []) qd167_16 qk167_207 (sw_sl hn (by decide)) rfl rfl rfl (Nat.le_of_ble_eq_true rfl) (Nat.le_of_ble_eq_true rfl) rfl (A166 hn e6 (sw_bk0 ?_))
      refine ga_ii (L' := [some (.ref (z + 221)), some (.int (Int32.ofInt l1)), some (.int (Int32.ofInt (l2 + 1)))]) qd167_19 rfl rfl ?_
      refine ga_jp (t := 2) qd167_22 rfl ?_
      exact sq_weak (L := [some (.ref (z + 221)), some (.int (Int32.ofInt l1)), some (.int (Int32.ofInt (l2 + 1)))]) ⟨rfl, rfl, rfl, trivial⟩ (ih _ _ h)
    · replace h := sw_ifN hb2 h
      refine ga_cgeN (t := 25) qd167_5 e1 hb2 rfl ?_
      rw [← sw_sj h] at kk
      exact sq_weak (L := [some (.ref (z + 221)), some (.int (Int32.ofInt l1)), none]) ⟨rfl, rfl, trivial⟩ kk
def w167_27 (l1 : Int) : Nat → sw_T → Int → Option (sw_T)
  | 0, _, _ => none
  | m + 1, T, l2 =>
    (w98 T l1 8).bind fun r11 =>
    (sw_r2 l2 r11).bind fun _u =>
    if l2 < r11 then
      (w101 T l1 l2).bind fun r15 =>
      (sw_r1 r15).bind fun _u =>
      (w166 T r15).bind fun r18 =>
      w167_27 l1 m r18 (l2 + 1)
    else
      some (T)
theorem B167_27 {G : sp_G} {z n : Nat} (hn : 228 ≤ n) {l1 : Int} {K : sw_K} {res : sw_T} {Q : sp_R → sp_M → Prop} (kk : sq_go G 167 55 [some (.ref (z + 221)), some (.int (Int32.ofInt l1)), none] [] (sw_M z n sw_Ft res K) Q) : ∀ (m : Nat) (T : sw_T) (l2 : Int), w167_27 l1 m T l2 = some res → sq_go G 167 27 [some (.ref (z + 221)), some (.int (Int32.ofInt l1)), some (.int (Int32.ofInt l2))] [] (sw_M z n sw_Ft T K) Q := by
  intro m
  induction m with
  | zero => intro T l2 h; cases h
  | succ m ih =>
    intro T l2 h
    rw [w167_27] at h
    refine go_l qd167_27 rfl ?_
    refine go_l qd167_28 rfl ?_
    refine go_l qd167_29 rfl ?_
    refine ga_k8 qd167_30 rfl ?_
    obtain ⟨r11, e10, h⟩ := sw_bind h
    refine ga_kv (a := 221) (as := [.int (Int32.ofInt l1), .int (Int32.ofInt 8)]) (rest := [.int (Int32.ofInt l2)]) qd167_32 qk167_43 (sw_sl hn (by decide)) rfl rfl rfl (Nat.le_of_ble_eq_true rfl) (Nat.le_of_ble_eq_true rfl) rfl (A98 hn e10 (sw_bkv ?_))
    obtain ⟨_u, e12, h⟩ := sw_bind h
    by_cases hb13 : l2 < r11
    · replace h := sw_ifY hb13 h
      refine ga_cgeY (t := 55) qd167_35 e12 hb13 rfl ?_
      refine go_l qd167_38 rfl ?_
      refine go_l qd167_39 rfl ?_
      refine go_l qd167_40 rfl ?_
      refine go_l qd167_41 rfl ?_
      obtain ⟨r15, e14, h⟩ := sw_bind h
      refine ga_kv (a := 221) (as := [.int (Int32.ofInt l1), .int (Int32.ofInt l2)]) (rest := [.ref (z + 221)]) qd167_42 qk167_63 (sw_sl hn (by decide)) rfl rfl rfl (Nat.le_of_ble_eq_true rfl) (Nat.le_of_ble_eq_true rfl) rfl (A101 hn e14 (sw_bkv ?_))
      obtain ⟨_u, e16, h⟩ := sw_bind h
      refine ga_i2l qd167_45 e16 ?_
      obtain ⟨r18, e17, h⟩ := sw_bind h
      refine ga_kv (a := 221) (as := [.long (Int64.ofInt r15)]) (rest := []) qd167_46 qk167_207 (sw_sl hn (by decide)) rfl rfl rfl (Nat.le_of_ble_eq_true rfl) (Nat.le_of_ble_eq_true rfl) rfl (A166 hn e17 (sw_bk0 ?_))
      refine ga_ii (L' := [some (.ref (z + 221)), some (.int (Int32.ofInt l1)), some (.int (Int32.ofInt (l2 + 1)))]) qd167_49 rfl rfl ?_
      refine ga_jp (t := 27) qd167_52 rfl ?_
      exact sq_weak (L := [some (.ref (z + 221)), some (.int (Int32.ofInt l1)), some (.int (Int32.ofInt (l2 + 1)))]) ⟨rfl, rfl, rfl, trivial⟩ (ih _ _ h)
    · replace h := sw_ifN hb13 h
      refine ga_cgeN (t := 55) qd167_35 e12 hb13 rfl ?_
      rw [← sw_sj h] at kk
      exact sq_weak (L := [some (.ref (z + 221)), some (.int (Int32.ofInt l1)), none]) ⟨rfl, rfl, trivial⟩ kk
def w167 (T : sw_T) (p1 : Int) : Option (sw_T) :=
  (w167_2 p1 sw_N T 0).bind fun x8 =>
  (w167_27 p1 sw_N x8 0).bind fun x19 =>
  (w115 x19 p1).bind fun r22 =>
  (sw_r1 r22).bind fun _u =>
  (w166 x19 r22).bind fun r25 =>
  some (r25)
theorem A167 {G : sp_G} {z n : Nat} (hn : 228 ≤ n) {T : sw_T} {K : sw_K} {p1 : Int} {res : sw_T} {Q : sp_R → sp_M → Prop} (h : w167 T p1 = some res) (kk : Q (.inl none) (sw_M z n sw_Ft res K)) : sq_go G 167 0 [some (.ref (z + 221)), some (.int (Int32.ofInt p1)), none] [] (sw_M z n sw_Ft T K) Q := by
  unfold w167 at h
  refine go_s qd167_0 rfl ?_
  refine go_l (L' := [some (.ref (z + 221)), some (.int (Int32.ofInt p1)), some (.int (Int32.ofInt 0))]) (st' := []) qd167_1 rfl ?_
  obtain ⟨x8, e9, h⟩ := sw_bind h
  refine sq_weak (L := [some (.ref (z + 221)), some (.int (Int32.ofInt p1)), some (.int (Int32.ofInt 0))]) ⟨rfl, rfl, rfl, trivial⟩ (B167_2 hn (res := x8) ?_ _ _ _ e9)
  refine go_s qd167_25 rfl ?_
  refine go_l (L' := [some (.ref (z + 221)), some (.int (Int32.ofInt p1)), some (.int (Int32.ofInt 0))]) (st' := []) qd167_26 rfl ?_
  obtain ⟨x19, e20, h⟩ := sw_bind h
  refine sq_weak (L := [some (.ref (z + 221)), some (.int (Int32.ofInt p1)), some (.int (Int32.ofInt 0))]) ⟨rfl, rfl, rfl, trivial⟩ (B167_27 hn (res := x19) ?_ _ _ _ e20)
  refine go_l qd167_55 rfl ?_
  refine go_l qd167_56 rfl ?_
  refine go_l qd167_57 rfl ?_
  obtain ⟨r22, e21, h⟩ := sw_bind h
  refine ga_kv (a := 221) (as := [.int (Int32.ofInt p1)]) (rest := [.ref (z + 221)]) qd167_58 qk167_80 (sw_sl hn (by decide)) rfl rfl rfl (Nat.le_of_ble_eq_true rfl) (Nat.le_of_ble_eq_true rfl) rfl (A115 hn e21 (sw_bkv ?_))
  obtain ⟨_u, e23, h⟩ := sw_bind h
  refine ga_i2l qd167_61 e23 ?_
  obtain ⟨r25, e24, h⟩ := sw_bind h
  refine ga_kv (a := 221) (as := [.long (Int64.ofInt r22)]) (rest := []) qd167_62 qk167_207 (sw_sl hn (by decide)) rfl rfl rfl (Nat.le_of_ble_eq_true rfl) (Nat.le_of_ble_eq_true rfl) rfl (A166 hn e24 (sw_bk0 ?_))
  rw [← sw_sj h] at kk
  exact ga_rv qd167_65 qr167 kk
theorem qc168 : sq_c 168 = 6 := by decide +kernel
theorem ql6_211 : sp_fd sp_clT 6 211 = some 3319 := by decide +kernel
theorem qk168_174 : sw_ck 168 174 151 0 1 6 2 = true := by decide +kernel
theorem qk168_207 : sw_ck 168 207 166 0 1 6 3 = true := by decide +kernel
theorem qk168_213 : sw_ck 168 213 167 0 1 6 3 = true := by decide +kernel
theorem qk168_186 : sw_ck 168 186 156 0 2 6 4 = true := by decide +kernel
theorem qk168_190 : sw_ck 168 190 160 0 2 6 6 = true := by decide +kernel
theorem qk168_193 : sw_ck 168 193 162 0 0 6 1 = true := by decide +kernel
theorem qb168_216 : sw_bc 168 216 0 = true := by decide +kernel
theorem qk168_197 : sw_ck 168 197 164 0 0 6 4 = true := by decide +kernel
theorem qb168_222 : sw_bc 168 222 1 = true := by decide +kernel
theorem qr168 : sq_ret 168 = some .long := by decide +kernel
-- 168: SewingPilesModel.digest()J
def w168_14 : Nat → sw_T → Int → Option (sw_T)
  | 0, _, _ => none
  | m + 1, T, l1 =>
    (sw_r2 l1 12).bind fun _u =>
    if l1 < 12 then
      (w151 T l1).bind fun r8 =>
      (sw_r1 r8).bind fun _u =>
      (w166 T r8).bind fun r11 =>
      w168_14 m r11 (l1 + 1)
    else
      some (T)
theorem B168_14 {G : sp_G} {z n : Nat} (hn : 228 ≤ n) {K : sw_K} {res : sw_T} {Q : sp_R → sp_M → Prop} (kk : sq_go G 168 36 [some (.ref (z + 221)), none] [] (sw_M z n sw_Ft res K) Q) : ∀ (m : Nat) (T : sw_T) (l1 : Int), w168_14  m T l1 = some res → sq_go G 168 14 [some (.ref (z + 221)), some (.int (Int32.ofInt l1))] [] (sw_M z n sw_Ft T K) Q := by
  intro m
  induction m with
  | zero => intro T l1 h; cases h
  | succ m ih =>
    intro T l1 h
    rw [w168_14] at h
    refine go_l qd168_14 rfl ?_
    refine ga_k8 qd168_15 rfl ?_
    obtain ⟨_u, e5, h⟩ := sw_bind h
    by_cases hb6 : l1 < 12
    · replace h := sw_ifY hb6 h
      refine ga_cgeY (t := 36) qd168_17 e5 hb6 rfl ?_
      refine go_l qd168_20 rfl ?_
      refine go_l qd168_21 rfl ?_
      refine go_l qd168_22 rfl ?_
      obtain ⟨r8, e7, h⟩ := sw_bind h
      refine ga_kv (a := 221) (as := [.int (Int32.ofInt l1)]) (rest := [.ref (z + 221)]) qd168_23 qk168_174 (sw_sl hn (by decide)) rfl rfl rfl (Nat.le_of_ble_eq_true rfl) (Nat.le_of_ble_eq_true rfl) rfl (A151 hn e7 (sw_bkv ?_))
      obtain ⟨_u, e9, h⟩ := sw_bind h
      refine ga_i2l qd168_26 e9 ?_
      obtain ⟨r11, e10, h⟩ := sw_bind h
      refine ga_kv (a := 221) (as := [.long (Int64.ofInt r8)]) (rest := []) qd168_27 qk168_207 (sw_sl hn (by decide)) rfl rfl rfl (Nat.le_of_ble_eq_true rfl) (Nat.le_of_ble_eq_true rfl) rfl (A166 hn e10 (sw_bk0 ?_))
      refine ga_ii (L' := [some (.ref (z + 221)), some (.int (Int32.ofInt (l1 + 1)))]) qd168_30 rfl rfl ?_
      refine ga_jp (t := 14) qd168_33 rfl ?_
      exact sq_weak (L := [some (.ref (z + 221)), some (.int (Int32.ofInt (l1 + 1)))]) ⟨rfl, rfl, trivial⟩ (ih _ _ h)
    · replace h := sw_ifN hb6 h
      refine ga_cgeN (t := 36) qd168_17 e5 hb6 rfl ?_
      rw [← sw_sj h] at kk
      exact sq_weak (L := [some (.ref (z + 221)), none]) ⟨rfl, trivial⟩ kk
def w168_38 : Nat → sw_T → Int → Option (sw_T)
  | 0, _, _ => none
  | m + 1, T, l1 =>
    (sw_r2 l1 3).bind fun _u =>
    if l1 < 3 then
      (sw_ld T 222 543 l1).bind fun v17 =>
      (sw_r1 v17).bind fun _u =>
      (w166 T v17).bind fun r20 =>
      w168_38 m r20 (l1 + 1)
    else
      some (T)
theorem B168_38 {G : sp_G} {z n : Nat} (hn : 228 ≤ n) {K : sw_K} {res : sw_T} {Q : sp_R → sp_M → Prop} (kk : sq_go G 168 60 [some (.ref (z + 221)), none] [] (sw_M z n sw_Ft res K) Q) : ∀ (m : Nat) (T : sw_T) (l1 : Int), w168_38  m T l1 = some res → sq_go G 168 38 [some (.ref (z + 221)), some (.int (Int32.ofInt l1))] [] (sw_M z n sw_Ft T K) Q := by
  intro m
  induction m with
  | zero => intro T l1 h; cases h
  | succ m ih =>
    intro T l1 h
    rw [w168_38] at h
    refine go_l qd168_38 rfl ?_
    refine go_s qd168_39 rfl ?_
    obtain ⟨_u, e14, h⟩ := sw_bind h
    by_cases hb15 : l1 < 3
    · replace h := sw_ifY hb15 h
      refine ga_cgeY (t := 60) qd168_40 e14 hb15 rfl ?_
      refine go_l qd168_43 rfl ?_
      refine go_l qd168_44 rfl ?_
      refine ga_gf (v := .ref (z + 222)) qd168_45 qc168 qf6_7 (sw_sl hn (by decide)) rfl rfl ?_
      refine go_l qd168_48 rfl ?_
      obtain ⟨v17, e16, h⟩ := sw_bind h
      refine ga_iald qd168_49 (sw_sl hn (by decide)) e16 ?_
      obtain ⟨_u, e18, h⟩ := sw_bind h
      refine ga_i2l qd168_50 e18 ?_
      obtain ⟨r20, e19, h⟩ := sw_bind h
      refine ga_kv (a := 221) (as := [.long (Int64.ofInt v17)]) (rest := []) qd168_51 qk168_207 (sw_sl hn (by decide)) rfl rfl rfl (Nat.le_of_ble_eq_true rfl) (Nat.le_of_ble_eq_true rfl) rfl (A166 hn e19 (sw_bk0 ?_))
      refine ga_ii (L' := [some (.ref (z + 221)), some (.int (Int32.ofInt (l1 + 1)))]) qd168_54 rfl rfl ?_
      refine ga_jp (t := 38) qd168_57 rfl ?_
      exact sq_weak (L := [some (.ref (z + 221)), some (.int (Int32.ofInt (l1 + 1)))]) ⟨rfl, rfl, trivial⟩ (ih _ _ h)
    · replace h := sw_ifN hb15 h
      refine ga_cgeN (t := 60) qd168_40 e14 hb15 rfl ?_
      rw [← sw_sj h] at kk
      exact sq_weak (L := [some (.ref (z + 221)), none]) ⟨rfl, trivial⟩ kk
def w168_62 : Nat → sw_T → Int → Option (sw_T)
  | 0, _, _ => none
  | m + 1, T, l1 =>
    (sw_ld T 222 543 4).bind fun v24 =>
    (sw_r2 l1 v24).bind fun _u =>
    if l1 < v24 then
      (w167 T l1).bind fun r28 =>
      w168_62 m r28 (l1 + 1)
    else
      some (T)
theorem B168_62 {G : sp_G} {z n : Nat} (hn : 228 ≤ n) {K : sw_K} {res : sw_T} {Q : sp_R → sp_M → Prop} (kk : sq_go G 168 83 [some (.ref (z + 221)), none] [] (sw_M z n sw_Ft res K) Q) : ∀ (m : Nat) (T : sw_T) (l1 : Int), w168_62  m T l1 = some res → sq_go G 168 62 [some (.ref (z + 221)), some (.int (Int32.ofInt l1))] [] (sw_M z n sw_Ft T K) Q := by
  intro m
  induction m with
  | zero => intro T l1 h; cases h
  | succ m ih =>
    intro T l1 h
    rw [w168_62] at h
    refine go_l qd168_62 rfl ?_
    refine go_l qd168_63 rfl ?_
    refine ga_gf (v := .ref (z + 222)) qd168_64 qc168 qf6_7 (sw_sl hn (by decide)) rfl rfl ?_
    refine go_s qd168_67 rfl ?_
    obtain ⟨v24, e23, h⟩ := sw_bind h
    refine ga_iald qd168_68 (sw_sl hn (by decide)) e23 ?_
    obtain ⟨_u, e25, h⟩ := sw_bind h
    by_cases hb26 : l1 < v24
    · replace h := sw_ifY hb26 h
      refine ga_cgeY (t := 83) qd168_69 e25 hb26 rfl ?_
      refine go_l qd168_72 rfl ?_
      refine go_l qd168_73 rfl ?_
      obtain ⟨r28, e27, h⟩ := sw_bind h
      refine ga_kv (a := 221) (as := [.int (Int32.ofInt l1)]) (rest := []) qd168_74 qk168_213 (sw_sl hn (by decide)) rfl rfl rfl (Nat.le_of_ble_eq_true rfl) (Nat.le_of_ble_eq_true rfl) rfl (A167 hn e27 (sw_bk0 ?_))
      refine ga_ii (L' := [some (.ref (z + 221)), some (.int (Int32.ofInt (l1 + 1)))]) qd168_77 rfl rfl ?_
      refine ga_jp (t := 62) qd168_80 rfl ?_
      exact sq_weak (L := [some (.ref (z + 221)), some (.int (Int32.ofInt (l1 + 1)))]) ⟨rfl, rfl, trivial⟩ (ih _ _ h)
    · replace h := sw_ifN hb26 h
      refine ga_cgeN (t := 83) qd168_69 e25 hb26 rfl ?_
      rw [← sw_sj h] at kk
      exact sq_weak (L := [some (.ref (z + 221)), none]) ⟨rfl, trivial⟩ kk
def w168_85 : Nat → sw_T → Int → Option (sw_T)
  | 0, _, _ => none
  | m + 1, T, l1 =>
    (sw_ld T 222 543 5).bind fun v32 =>
    (sw_r2 l1 (3 * v32)).bind fun _u =>
    if l1 < (3 * v32) then
      (sw_ld T 222 543 (183 + l1)).bind fun v36 =>
      (sw_r1 v36).bind fun _u =>
      (w166 T v36).bind fun r39 =>
      w168_85 m r39 (l1 + 1)
    else
      some (T)
theorem B168_85 {G : sp_G} {z n : Nat} (hn : 228 ≤ n) {K : sw_K} {res : sw_T} {Q : sp_R → sp_M → Prop} (kk : sq_go G 168 118 [some (.ref (z + 221)), none] [] (sw_M z n sw_Ft res K) Q) : ∀ (m : Nat) (T : sw_T) (l1 : Int), w168_85  m T l1 = some res → sq_go G 168 85 [some (.ref (z + 221)), some (.int (Int32.ofInt l1))] [] (sw_M z n sw_Ft T K) Q := by
  intro m
  induction m with
  | zero => intro T l1 h; cases h
  | succ m ih =>
    intro T l1 h
    rw [w168_85] at h
    refine go_l qd168_85 rfl ?_
    refine go_s qd168_86 rfl ?_
    refine go_l qd168_87 rfl ?_
    refine ga_gf (v := .ref (z + 222)) qd168_88 qc168 qf6_7 (sw_sl hn (by decide)) rfl rfl ?_
    refine go_s qd168_91 rfl ?_
    obtain ⟨v32, e31, h⟩ := sw_bind h
    refine ga_iald qd168_92 (sw_sl hn (by decide)) e31 ?_
    refine ga_imul qd168_93 ?_
    obtain ⟨_u, e33, h⟩ := sw_bind h
    by_cases hb34 : l1 < (3 * v32)
    · replace h := sw_ifY hb34 h
      refine ga_cgeY (t := 118) qd168_94 e33 hb34 rfl ?_
      refine go_l qd168_97 rfl ?_
      refine go_l qd168_98 rfl ?_
      refine ga_gf (v := .ref (z + 222)) qd168_99 qc168 qf6_7 (sw_sl hn (by decide)) rfl rfl ?_
      refine ga_k16 qd168_102 rfl ?_
      refine go_l qd168_105 rfl ?_
      refine ga_iadd qd168_106 ?_
      obtain ⟨v36, e35, h⟩ := sw_bind h
      refine ga_iald qd168_107 (sw_sl hn (by decide)) e35 ?_
      obtain ⟨_u, e37, h⟩ := sw_bind h
      refine ga_i2l qd168_108 e37 ?_
      obtain ⟨r39, e38, h⟩ := sw_bind h
      refine ga_kv (a := 221) (as := [.long (Int64.ofInt v36)]) (rest := []) qd168_109 qk168_207 (sw_sl hn (by decide)) rfl rfl rfl (Nat.le_of_ble_eq_true rfl) (Nat.le_of_ble_eq_true rfl) rfl (A166 hn e38 (sw_bk0 ?_))
      refine ga_ii (L' := [some (.ref (z + 221)), some (.int (Int32.ofInt (l1 + 1)))]) qd168_112 rfl rfl ?_
      refine ga_jp (t := 85) qd168_115 rfl ?_
      exact sq_weak (L := [some (.ref (z + 221)), some (.int (Int32.ofInt (l1 + 1)))]) ⟨rfl, rfl, trivial⟩ (ih _ _ h)
    · replace h := sw_ifN hb34 h
      refine ga_cgeN (t := 118) qd168_94 e33 hb34 rfl ?_
      rw [← sw_sj h] at kk
      exact sq_weak (L := [some (.ref (z + 221)), none]) ⟨rfl, trivial⟩ kk
def w168_165 : Nat → sw_T → Int → Option (sw_T)
  | 0, _, _ => none
  | m + 1, T, l1 =>
    (sw_r2 l1 4).bind fun _u =>
    if l1 < 4 then
      (w160 T 10 l1).bind fun r65 =>
      (sw_r1 r65.1).bind fun _u =>
      (w166 r65.2 r65.1).bind fun r68 =>
      w168_165 m r68 (l1 + 1)
    else
      some (T)
theorem B168_165 {G : sp_G} {z n : Nat} (hn : 228 ≤ n) {K : sw_K} {res : sw_T} {Q : sp_R → sp_M → Prop} (kk : sq_go G 168 188 [some (.ref (z + 221)), none] [] (sw_M z n sw_Ft res K) Q) : ∀ (m : Nat) (T : sw_T) (l1 : Int), w168_165  m T l1 = some res → sq_go G 168 165 [some (.ref (z + 221)), some (.int (Int32.ofInt l1))] [] (sw_M z n sw_Ft T K) Q := by
  intro m
  induction m with
  | zero => intro T l1 h; cases h
  | succ m ih =>
    intro T l1 h
    rw [w168_165] at h
    refine go_l qd168_165 rfl ?_
    refine go_s qd168_166 rfl ?_
    obtain ⟨_u, e62, h⟩ := sw_bind h
    by_cases hb63 : l1 < 4
    · replace h := sw_ifY hb63 h
      refine ga_cgeY (t := 188) qd168_167 e62 hb63 rfl ?_
      refine go_l qd168_170 rfl ?_
      refine go_l qd168_171 rfl ?_
      refine ga_k8 qd168_172 rfl ?_
      refine go_l qd168_174 rfl ?_
      obtain ⟨r65, e64, h⟩ := sw_bind h
      refine ga_kv (a := 221) (as := [.int (Int32.ofInt 10), .int (Int32.ofInt l1)]) (rest := [.ref (z + 221)]) qd168_175 qk168_190 (sw_sl hn (by decide)) rfl rfl rfl (Nat.le_of_ble_eq_true rfl) (Nat.le_of_ble_eq_true rfl) rfl (A160 hn e64 (sw_bkv ?_))
      obtain ⟨_u, e66, h⟩ := sw_bind h
      refine ga_i2l qd168_178 e66 ?_
      obtain ⟨r68, e67, h⟩ := sw_bind h
      refine ga_kv (a := 221) (as := [.long (Int64.ofInt r65.1)]) (rest := []) qd168_179 qk168_207 (sw_sl hn (by decide)) rfl rfl rfl (Nat.le_of_ble_eq_true rfl) (Nat.le_of_ble_eq_true rfl) rfl (A166 hn e67 (sw_bk0 ?_))
      refine ga_ii (L' := [some (.ref (z + 221)), some (.int (Int32.ofInt (l1 + 1)))]) qd168_182 rfl rfl ?_
      refine ga_jp (t := 165) qd168_185 rfl ?_
      exact sq_weak (L := [some (.ref (z + 221)), some (.int (Int32.ofInt (l1 + 1)))]) ⟨rfl, rfl, trivial⟩ (ih _ _ h)
    · replace h := sw_ifN hb63 h
      refine ga_cgeN (t := 188) qd168_167 e62 hb63 rfl ?_
      rw [← sw_sj h] at kk
      exact sq_weak (L := [some (.ref (z + 221)), none]) ⟨rfl, trivial⟩ kk
def w168_238 : Nat → sw_T → Int → Option (sw_T)
  | 0, _, _ => none
  | m + 1, T, l1 =>
    (sw_r2 l1 (T 221 8)).bind fun _u =>
    if l1 < (T 221 8) then
      (sw_ld T 226 60 l1).bind fun v92 =>
      (sw_r1 v92).bind fun _u =>
      (w166 T v92).bind fun r95 =>
      w168_238 m r95 (l1 + 1)
    else
      some (T)
theorem B168_238 {G : sp_G} {z n : Nat} (hn : 228 ≤ n) {K : sw_K} {res : sw_T} {Q : sp_R → sp_M → Prop} (kk : sq_go G 168 263 [some (.ref (z + 221)), none] [] (sw_M z n sw_Ft res K) Q) : ∀ (m : Nat) (T : sw_T) (l1 : Int), w168_238  m T l1 = some res → sq_go G 168 238 [some (.ref (z + 221)), some (.int (Int32.ofInt l1))] [] (sw_M z n sw_Ft T K) Q := by
  intro m
  induction m with
  | zero => intro T l1 h; cases h
  | succ m ih =>
    intro T l1 h
    rw [w168_238] at h
    refine go_l qd168_238 rfl ?_
    refine go_l qd168_239 rfl ?_
    refine ga_gf (v := .int (Int32.ofInt (T 221 8))) qd168_240 qc168 qf6_128 (sw_sl hn (by decide)) rfl rfl ?_
    obtain ⟨_u, e89, h⟩ := sw_bind h
    by_cases hb90 : l1 < (T 221 8)
    · replace h := sw_ifY hb90 h
      refine ga_cgeY (t := 263) qd168_243 e89 hb90 rfl ?_
      refine go_l qd168_246 rfl ?_
      refine go_l qd168_247 rfl ?_
      refine ga_gf (v := .ref (z + 226)) qd168_248 qc168 qf6_22 (sw_sl hn (by decide)) rfl rfl ?_
      refine go_l qd168_251 rfl ?_
      obtain ⟨v92, e91, h⟩ := sw_bind h
      refine ga_iald qd168_252 (sw_sl hn (by decide)) e91 ?_
      obtain ⟨_u, e93, h⟩ := sw_bind h
      refine ga_i2l qd168_253 e93 ?_
      obtain ⟨r95, e94, h⟩ := sw_bind h
      refine ga_kv (a := 221) (as := [.long (Int64.ofInt v92)]) (rest := []) qd168_254 qk168_207 (sw_sl hn (by decide)) rfl rfl rfl (Nat.le_of_ble_eq_true rfl) (Nat.le_of_ble_eq_true rfl) rfl (A166 hn e94 (sw_bk0 ?_))
      refine ga_ii (L' := [some (.ref (z + 221)), some (.int (Int32.ofInt (l1 + 1)))]) qd168_257 rfl rfl ?_
      refine ga_jp (t := 238) qd168_260 rfl ?_
      exact sq_weak (L := [some (.ref (z + 221)), some (.int (Int32.ofInt (l1 + 1)))]) ⟨rfl, rfl, trivial⟩ (ih _ _ h)
    · replace h := sw_ifN hb90 h
      refine ga_cgeN (t := 263) qd168_243 e89 hb90 rfl ?_
      rw [← sw_sj h] at kk
      exact sq_weak (L := [some (.ref (z + 221)), none]) ⟨rfl, trivial⟩ kk
def w168 (T : sw_T) : Option (Int × sw_T) :=
  (sw_pf T 221 0 0).bind fun T1 =>
  (sw_pf T1 221 14 3319).bind fun T3 =>
  (w168_14 sw_N T3 0).bind fun x12 =>
  (w168_38 sw_N x12 0).bind fun x21 =>
  (w168_62 sw_N x21 0).bind fun x29 =>
  (w168_85 sw_N x29 0).bind fun x40 =>
  (w156 x40 0 0).bind fun r43 =>
  (sw_r1 r43.1).bind fun _u =>
  (w166 r43.2 r43.1).bind fun r46 =>
  (w156 r46 1 0).bind fun r48 =>
  (sw_r1 r48.1).bind fun _u =>
  (w166 r48.2 r48.1).bind fun r51 =>
  (w156 r51 0 1).bind fun r53 =>
  (sw_r1 r53.1).bind fun _u =>
  (w166 r53.2 r53.1).bind fun r56 =>
  (w156 r56 0 9).bind fun r58 =>
  (sw_r1 r58.1).bind fun _u =>
  (w166 r58.2 r58.1).bind fun r61 =>
  (w168_165 sw_N r61 0).bind fun x69 =>
  (w162 x69).bind fun r72 =>
  (sw_nd r72).bind fun _u =>
  (w166 x69 (r72.toInt64.toInt)).bind fun r75 =>
  (w164 r75).bind fun r77 =>
  (sw_nf r77).bind fun _u =>
  (sw_r1 (r77.toInt32.toInt)).bind fun _u =>
  (w166 r75 (r77.toInt32.toInt)).bind fun r81 =>
  (sw_r1 (r81 221 6)).bind fun _u =>
  if (r81 221 6) = 0 then
    (w166 r81 0).bind fun r85 =>
    (sw_r1 (r85 221 8)).bind fun _u =>
    (w166 r85 (r85 221 8)).bind fun r88 =>
    (w168_238 sw_N r88 0).bind fun x96 =>
    some (((x96 221 14), x96))
  else
    (w166 r81 1).bind fun r99 =>
    (sw_r1 (r99 221 8)).bind fun _u =>
    (w166 r99 (r99 221 8)).bind fun r102 =>
    (w168_238 sw_N r102 0).bind fun x103 =>
    some (((x103 221 14), x103))
theorem A168 {G : sp_G} {z n : Nat} (hn : 228 ≤ n) {T : sw_T} {K : sw_K} {res : Int × sw_T} {Q : sp_R → sp_M → Prop} (h : w168 T = some res) (kk : ∀ K' : sw_K, sw_kk K K' → Q (.inl (some (.long (Int64.ofInt res.1)))) (sw_M z n sw_Ft res.2 K')) : sq_go G 168 0 [some (.ref (z + 221)), none] [] (sw_M z n sw_Ft T K) Q := by
  unfold w168 at h
  refine go_l qd168_0 rfl ?_
  refine go_s qd168_1 rfl ?_
  obtain ⟨T1, e2, h⟩ := sw_bind h
  refine ga_pfi qd168_2 qc168 qg6_28 (sw_sl hn (by decide)) rfl qi6_0 e2 ?_
  refine go_l qd168_5 rfl ?_
  refine ga_k64 (u := 3319) qd168_6 qc168 ql6_211 rfl ?_
  obtain ⟨T3, e4, h⟩ := sw_bind h
  refine ga_pfl qd168_9 qc168 qg6_203 (sw_sl hn (by decide)) rfl qi6_14 e4 ?_
  refine go_s qd168_12 rfl ?_
  refine go_l (L' := [some (.ref (z + 221)), some (.int (Int32.ofInt 0))]) (st' := []) qd168_13 rfl ?_
  obtain ⟨x12, e13, h⟩ := sw_bind h
  refine sq_weak (L := [some (.ref (z + 221)), some (.int (Int32.ofInt 0))]) ⟨rfl, rfl, trivial⟩ (B168_14 hn (res := x12) ?_ _ _ _ e13)
  refine go_s qd168_36 rfl ?_
  refine go_l (L' := [some (.ref (z + 221)), some (.int (Int32.ofInt 0))]) (st' := []) qd168_37 rfl ?_
  obtain ⟨x21, e22, h⟩ := sw_bind h
  refine sq_weak (L := [some (.ref (z + 221)), some (.int (Int32.ofInt 0))]) ⟨rfl, rfl, trivial⟩ (B168_38 hn (res := x21) ?_ _ _ _ e22)
  refine go_s qd168_60 rfl ?_
  refine go_l (L' := [some (.ref (z + 221)), some (.int (Int32.ofInt 0))]) (st' := []) qd168_61 rfl ?_
  obtain ⟨x29, e30, h⟩ := sw_bind h
  refine sq_weak (L := [some (.ref (z + 221)), some (.int (Int32.ofInt 0))]) ⟨rfl, rfl, trivial⟩ (B168_62 hn (res := x29) ?_ _ _ _ e30)
  refine go_s qd168_83 rfl ?_
  refine go_l (L' := [some (.ref (z + 221)), some (.int (Int32.ofInt 0))]) (st' := []) qd168_84 rfl ?_
  obtain ⟨x40, e41, h⟩ := sw_bind h
  refine sq_weak (L := [some (.ref (z + 221)), some (.int (Int32.ofInt 0))]) ⟨rfl, rfl, trivial⟩ (B168_85 hn (res := x40) ?_ _ _ _ e41)
  refine go_l qd168_118 rfl ?_
  refine go_l qd168_119 rfl ?_
  refine go_s qd168_120 rfl ?_
  refine go_s qd168_121 rfl ?_
  obtain ⟨r43, e42, h⟩ := sw_bind h
  refine ga_kv (a := 221) (as := [.int (Int32.ofInt 0), .int (Int32.ofInt 0)]) (rest := [.ref (z + 221)]) qd168_122 qk168_186 (sw_sl hn (by decide)) rfl rfl rfl (Nat.le_of_ble_eq_true rfl) (Nat.le_of_ble_eq_true rfl) rfl (A156 hn e42 (sw_bkv ?_))
  obtain ⟨_u, e44, h⟩ := sw_bind h
  refine ga_i2l qd168_125 e44 ?_
  obtain ⟨r46, e45, h⟩ := sw_bind h
  refine ga_kv (a := 221) (as := [.long (Int64.ofInt r43.1)]) (rest := []) qd168_126 qk168_207 (sw_sl hn (by decide)) rfl rfl rfl (Nat.le_of_ble_eq_true rfl) (Nat.le_of_ble_eq_true rfl) rfl (A166 hn e45 (sw_bk0 ?_))
  refine go_l qd168_129 rfl ?_
  refine go_l qd168_130 rfl ?_
  refine go_s qd168_131 rfl ?_
  refine go_s qd168_132 rfl ?_
  obtain ⟨r48, e47, h⟩ := sw_bind h
  refine ga_kv (a := 221) (as := [.int (Int32.ofInt 1), .int (Int32.ofInt 0)]) (rest := [.ref (z + 221)]) qd168_133 qk168_186 (sw_sl hn (by decide)) rfl rfl rfl (Nat.le_of_ble_eq_true rfl) (Nat.le_of_ble_eq_true rfl) rfl (A156 hn e47 (sw_bkv ?_))
  obtain ⟨_u, e49, h⟩ := sw_bind h
  refine ga_i2l qd168_136 e49 ?_
  obtain ⟨r51, e50, h⟩ := sw_bind h
  refine ga_kv (a := 221) (as := [.long (Int64.ofInt r48.1)]) (rest := []) qd168_137 qk168_207 (sw_sl hn (by decide)) rfl rfl rfl (Nat.le_of_ble_eq_true rfl) (Nat.le_of_ble_eq_true rfl) rfl (A166 hn e50 (sw_bk0 ?_))
  refine go_l qd168_140 rfl ?_
  refine go_l qd168_141 rfl ?_
  refine go_s qd168_142 rfl ?_
  refine go_s qd168_143 rfl ?_
  obtain ⟨r53, e52, h⟩ := sw_bind h
  refine ga_kv (a := 221) (as := [.int (Int32.ofInt 0), .int (Int32.ofInt 1)]) (rest := [.ref (z + 221)]) qd168_144 qk168_186 (sw_sl hn (by decide)) rfl rfl rfl (Nat.le_of_ble_eq_true rfl) (Nat.le_of_ble_eq_true rfl) rfl (A156 hn e52 (sw_bkv ?_))
  obtain ⟨_u, e54, h⟩ := sw_bind h
  refine ga_i2l qd168_147 e54 ?_
  obtain ⟨r56, e55, h⟩ := sw_bind h
  refine ga_kv (a := 221) (as := [.long (Int64.ofInt r53.1)]) (rest := []) qd168_148 qk168_207 (sw_sl hn (by decide)) rfl rfl rfl (Nat.le_of_ble_eq_true rfl) (Nat.le_of_ble_eq_true rfl) rfl (A166 hn e55 (sw_bk0 ?_))
  refine go_l qd168_151 rfl ?_
  refine go_l qd168_152 rfl ?_
  refine go_s qd168_153 rfl ?_
  refine ga_k8 qd168_154 rfl ?_
  obtain ⟨r58, e57, h⟩ := sw_bind h
  refine ga_kv (a := 221) (as := [.int (Int32.ofInt 0), .int (Int32.ofInt 9)]) (rest := [.ref (z + 221)]) qd168_156 qk168_186 (sw_sl hn (by decide)) rfl rfl rfl (Nat.le_of_ble_eq_true rfl) (Nat.le_of_ble_eq_true rfl) rfl (A156 hn e57 (sw_bkv ?_))
  obtain ⟨_u, e59, h⟩ := sw_bind h
  refine ga_i2l qd168_159 e59 ?_
  obtain ⟨r61, e60, h⟩ := sw_bind h
  refine ga_kv (a := 221) (as := [.long (Int64.ofInt r58.1)]) (rest := []) qd168_160 qk168_207 (sw_sl hn (by decide)) rfl rfl rfl (Nat.le_of_ble_eq_true rfl) (Nat.le_of_ble_eq_true rfl) rfl (A166 hn e60 (sw_bk0 ?_))
  refine go_s qd168_163 rfl ?_
  refine go_l (L' := [some (.ref (z + 221)), some (.int (Int32.ofInt 0))]) (st' := []) qd168_164 rfl ?_
  obtain ⟨x69, e70, h⟩ := sw_bind h
  refine sq_weak (L := [some (.ref (z + 221)), some (.int (Int32.ofInt 0))]) ⟨rfl, rfl, trivial⟩ (B168_165 hn (res := x69) ?_ _ _ _ e70)
  refine go_l qd168_188 rfl ?_
  refine go_l qd168_189 rfl ?_
  obtain ⟨r72, e71, h⟩ := sw_bind h
  refine ga_kv (a := 221) (as := []) (rest := [.ref (z + 221)]) qd168_190 qk168_193 (sw_sl hn (by decide)) rfl rfl rfl (Nat.le_of_ble_eq_true rfl) (Nat.le_of_ble_eq_true rfl) rfl (A162 hn e71 (sw_bkv ?_))
  obtain ⟨_u, e73, h⟩ := sw_bind h
  refine ga_db qd168_193 qb168_216 e73 (Nat.le_of_ble_eq_true rfl) ?_
  obtain ⟨r75, e74, h⟩ := sw_bind h
  refine ga_kv (a := 221) (as := [.long (Int64.ofInt (r72.toInt64.toInt))]) (rest := []) qd168_196 qk168_207 (sw_sl hn (by decide)) rfl rfl rfl (Nat.le_of_ble_eq_true rfl) (Nat.le_of_ble_eq_true rfl) rfl (A166 hn e74 (sw_bk0 ?_))
  refine go_l qd168_199 rfl ?_
  refine go_l qd168_200 rfl ?_
  obtain ⟨r77, e76, h⟩ := sw_bind h
  refine ga_kv (a := 221) (as := []) (rest := [.ref (z + 221)]) qd168_201 qk168_197 (sw_sl hn (by decide)) rfl rfl rfl (Nat.le_of_ble_eq_true rfl) (Nat.le_of_ble_eq_true rfl) rfl (A164 hn e76 (sw_bkv ?_))
  obtain ⟨_u, e78, h⟩ := sw_bind h
  refine ga_fb qd168_204 qb168_222 e78 (Nat.le_of_ble_eq_true rfl) ?_
  obtain ⟨_u, e79, h⟩ := sw_bind h
  refine ga_i2l qd168_207 e79 ?_
  obtain ⟨r81, e80, h⟩ := sw_bind h
  refine ga_kv (a := 221) (as := [.long (Int64.ofInt (r77.toInt32.toInt))]) (rest := []) qd168_208 qk168_207 (sw_sl hn (by decide)) rfl rfl rfl (Nat.le_of_ble_eq_true rfl) (Nat.le_of_ble_eq_true rfl) rfl (A166 hn e80 (sw_bk0 ?_))
  refine go_l qd168_211 rfl ?_
  refine go_l qd168_212 rfl ?_
  refine ga_gf (v := .int (Int32.ofInt (r81 221 6))) qd168_213 qc168 qf6_159 (sw_sl hn (by decide)) rfl rfl ?_
  obtain ⟨_u, e82, h⟩ := sw_bind h
  by_cases hb83 : (r81 221 6) = 0
  · replace h := sw_ifY hb83 h
    refine ga_zeqY (t := 223) qd168_216 e82 hb83 rfl ?_
    refine ga_kl (u := 0) qd168_223 rfl ?_
    obtain ⟨r85, e84, h⟩ := sw_bind h
    refine ga_kv (a := 221) (as := [.long (Int64.ofInt 0)]) (rest := []) qd168_224 qk168_207 (sw_sl hn (by decide)) rfl rfl rfl (Nat.le_of_ble_eq_true rfl) (Nat.le_of_ble_eq_true rfl) rfl (A166 hn e84 (sw_bk0 ?_))
    refine go_l qd168_227 rfl ?_
    refine go_l qd168_228 rfl ?_
    refine ga_gf (v := .int (Int32.ofInt (r85 221 8))) qd168_229 qc168 qf6_128 (sw_sl hn (by decide)) rfl rfl ?_
    obtain ⟨_u, e86, h⟩ := sw_bind h
    refine ga_i2l qd168_232 e86 ?_
    obtain ⟨r88, e87, h⟩ := sw_bind h
    refine ga_kv (a := 221) (as := [.long (Int64.ofInt (r85 221 8))]) (rest := []) qd168_233 qk168_207 (sw_sl hn (by decide)) rfl rfl rfl (Nat.le_of_ble_eq_true rfl) (Nat.le_of_ble_eq_true rfl) rfl (A166 hn e87 (sw_bk0 ?_))
    refine go_s qd168_236 rfl ?_
    refine go_l (L' := [some (.ref (z + 221)), some (.int (Int32.ofInt 0))]) (st' := []) qd168_237 rfl ?_
    obtain ⟨x96, e97, h⟩ := sw_bind h
    refine sq_weak (L := [some (.ref (z + 221)), some (.int (Int32.ofInt 0))]) ⟨rfl, rfl, trivial⟩ (B168_238 hn (res := x96) ?_ _ _ _ e97)
    refine go_l qd168_263 rfl ?_
    refine ga_gf (v := .long (Int64.ofInt (x96 221 14))) qd168_264 qc168 qf6_203 (sw_sl hn (by decide)) rfl rfl ?_
    rw [← sw_sj h] at kk
    exact ga_rl qd168_267 qr168 (kk _ sw_kk.nn)
  · replace h := sw_ifN hb83 h
    refine ga_zeqN (t := 223) qd168_216 e82 hb83 rfl ?_
    refine ga_kl (u := 1) qd168_219 rfl ?_
    refine ga_jp (t := 224) qd168_220 rfl ?_
    obtain ⟨r99, e98, h⟩ := sw_bind h
    refine ga_kv (a := 221) (as := [.long (Int64.ofInt 1)]) (rest := []) qd168_224 qk168_207 (sw_sl hn (by decide)) rfl rfl rfl (Nat.le_of_ble_eq_true rfl) (Nat.le_of_ble_eq_true rfl) rfl (A166 hn e98 (sw_bk0 ?_))
    refine go_l qd168_227 rfl ?_
    refine go_l qd168_228 rfl ?_
    refine ga_gf (v := .int (Int32.ofInt (r99 221 8))) qd168_229 qc168 qf6_128 (sw_sl hn (by decide)) rfl rfl ?_
    obtain ⟨_u, e100, h⟩ := sw_bind h
    refine ga_i2l qd168_232 e100 ?_
    obtain ⟨r102, e101, h⟩ := sw_bind h
    refine ga_kv (a := 221) (as := [.long (Int64.ofInt (r99 221 8))]) (rest := []) qd168_233 qk168_207 (sw_sl hn (by decide)) rfl rfl rfl (Nat.le_of_ble_eq_true rfl) (Nat.le_of_ble_eq_true rfl) rfl (A166 hn e101 (sw_bk0 ?_))
    refine go_s qd168_236 rfl ?_
    refine go_l (L' := [some (.ref (z + 221)), some (.int (Int32.ofInt 0))]) (st' := []) qd168_237 rfl ?_
    obtain ⟨x103, e104, h⟩ := sw_bind h
    refine sq_weak (L := [some (.ref (z + 221)), some (.int (Int32.ofInt 0))]) ⟨rfl, rfl, trivial⟩ (B168_238 hn (res := x103) ?_ _ _ _ e104)
    refine go_l qd168_263 rfl ?_
    refine ga_gf (v := .long (Int64.ofInt (x103 221 14))) qd168_264 qc168 qf6_203 (sw_sl hn (by decide)) rfl rfl ?_
    rw [← sw_sj h] at kk
    exact ga_rl qd168_267 qr168 (kk _ sw_kk.nn)
