/-! ===== the methods as functions over tables ===== -/
theorem qf6_13 : (sp_fd sp_flT 6 13).or (sp_fd sp_fnT 6 13) = some (6, 2) := by decide +kernel
theorem qc106 : sq_c 106 = 6 := by decide +kernel
theorem qr106 : sq_ret 106 = none := by decide +kernel
-- 106: SewingPilesModel.putAside()V
def w106_2 : Nat → sw_T → Int → Option (sw_T)
  | 0, _, _ => none
  | m + 1, T, l1 =>
    (sw_r2 l1 543).bind fun _u =>
    if l1 < 543 then
      (sw_ld T 222 543 l1).bind fun v4 =>
      (sw_st T 223 543 l1 v4).bind fun T6 =>
      w106_2 m T6 (l1 + 1)
    else
      some (T)
theorem B106_2 {G : sp_G} {z n : Nat} (hn : 228 ≤ n) {K : sw_K} {res : sw_T} {Q : sp_R → sp_M → Prop} (kk : sq_go G 106 27 [none, none] [] (sw_M z n sw_Ft res K) Q) : ∀ (m : Nat) (T : sw_T) (l1 : Int), w106_2  m T l1 = some res → sq_go G 106 2 [some (.ref (z + 221)), some (.int (Int32.ofInt l1))] [] (sw_M z n sw_Ft T K) Q := by
  intro m
  induction m with
  | zero => intro T l1 h; cases h
  | succ m ih =>
    intro T l1 h
    rw [w106_2] at h
    refine go_l qd106_2 rfl ?_
    refine ga_k16 qd106_3 rfl ?_
    obtain ⟨_u, e1, h⟩ := sw_bind h
    by_cases hb2 : l1 < 543
    · replace h := sw_ifY hb2 h
      refine ga_cgeY (t := 27) qd106_6 e1 hb2 rfl ?_
      refine go_l qd106_9 rfl ?_
      refine ga_gf (v := .ref (z + 223)) qd106_10 qc106 qf6_13 (sw_sl hn (by decide)) rfl rfl ?_
      refine go_l qd106_13 rfl ?_
      refine go_l qd106_14 rfl ?_
      refine ga_gf (v := .ref (z + 222)) qd106_15 qc106 qf6_7 (sw_sl hn (by decide)) rfl rfl ?_
      refine go_l qd106_18 rfl ?_
      obtain ⟨v4, e3, h⟩ := sw_bind h
      refine ga_iald qd106_19 (sw_sl hn (by decide)) e3 ?_
      obtain ⟨T6, e5, h⟩ := sw_bind h
      refine ga_iast qd106_20 (sw_sl hn (by decide)) e5 ?_
      refine ga_ii (L' := [some (.ref (z + 221)), some (.int (Int32.ofInt (l1 + 1)))]) qd106_21 rfl rfl ?_
      refine ga_jp (t := 2) qd106_24 rfl ?_
      exact sq_weak (L := [some (.ref (z + 221)), some (.int (Int32.ofInt (l1 + 1)))]) ⟨rfl, rfl, trivial⟩ (ih _ _ h)
    · replace h := sw_ifN hb2 h
      refine ga_cgeN (t := 27) qd106_6 e1 hb2 rfl ?_
      rw [← sw_sj h] at kk
      exact sq_weak (L := [none, none]) trivial kk
def w106 (T : sw_T) : Option (sw_T) :=
  (w106_2 sw_N T 0).bind fun x7 =>
  some (x7)
theorem A106 {G : sp_G} {z n : Nat} (hn : 228 ≤ n) {T : sw_T} {K : sw_K} {res : sw_T} {Q : sp_R → sp_M → Prop} (h : w106 T = some res) (kk : Q (.inl none) (sw_M z n sw_Ft res K)) : sq_go G 106 0 [some (.ref (z + 221)), none] [] (sw_M z n sw_Ft T K) Q := by
  unfold w106 at h
  refine go_s qd106_0 rfl ?_
  refine go_l (L' := [some (.ref (z + 221)), some (.int (Int32.ofInt 0))]) (st' := []) qd106_1 rfl ?_
  obtain ⟨x7, e8, h⟩ := sw_bind h
  refine sq_weak (L := [some (.ref (z + 221)), some (.int (Int32.ofInt 0))]) ⟨rfl, rfl, trivial⟩ (B106_2 hn (res := x7) ?_ _ _ _ e8)
  rw [← sw_sj h] at kk
  exact ga_rv qd106_27 qr106 kk
theorem qc107 : sq_c 107 = 6 := by decide +kernel
theorem qr107 : sq_ret 107 = none := by decide +kernel
-- 107: SewingPilesModel.takeBack()V
def w107_2 : Nat → sw_T → Int → Option (sw_T)
  | 0, _, _ => none
  | m + 1, T, l1 =>
    (sw_r2 l1 543).bind fun _u =>
    if l1 < 543 then
      (sw_ld T 223 543 l1).bind fun v4 =>
      (sw_st T 222 543 l1 v4).bind fun T6 =>
      w107_2 m T6 (l1 + 1)
    else
      some (T)
theorem B107_2 {G : sp_G} {z n : Nat} (hn : 228 ≤ n) {K : sw_K} {res : sw_T} {Q : sp_R → sp_M → Prop} (kk : sq_go G 107 27 [none, none] [] (sw_M z n sw_Ft res K) Q) : ∀ (m : Nat) (T : sw_T) (l1 : Int), w107_2  m T l1 = some res → sq_go G 107 2 [some (.ref (z + 221)), some (.int (Int32.ofInt l1))] [] (sw_M z n sw_Ft T K) Q := by
  intro m
  induction m with
  | zero => intro T l1 h; cases h
  | succ m ih =>
    intro T l1 h
    rw [w107_2] at h
    refine go_l qd107_2 rfl ?_
    refine ga_k16 qd107_3 rfl ?_
    obtain ⟨_u, e1, h⟩ := sw_bind h
    by_cases hb2 : l1 < 543
    · replace h := sw_ifY hb2 h
      refine ga_cgeY (t := 27) qd107_6 e1 hb2 rfl ?_
      refine go_l qd107_9 rfl ?_
      refine ga_gf (v := .ref (z + 222)) qd107_10 qc107 qf6_7 (sw_sl hn (by decide)) rfl rfl ?_
      refine go_l qd107_13 rfl ?_
      refine go_l qd107_14 rfl ?_
      refine ga_gf (v := .ref (z + 223)) qd107_15 qc107 qf6_13 (sw_sl hn (by decide)) rfl rfl ?_
      refine go_l qd107_18 rfl ?_
      obtain ⟨v4, e3, h⟩ := sw_bind h
      refine ga_iald qd107_19 (sw_sl hn (by decide)) e3 ?_
      obtain ⟨T6, e5, h⟩ := sw_bind h
      refine ga_iast qd107_20 (sw_sl hn (by decide)) e5 ?_
      refine ga_ii (L' := [some (.ref (z + 221)), some (.int (Int32.ofInt (l1 + 1)))]) qd107_21 rfl rfl ?_
      refine ga_jp (t := 2) qd107_24 rfl ?_
      exact sq_weak (L := [some (.ref (z + 221)), some (.int (Int32.ofInt (l1 + 1)))]) ⟨rfl, rfl, trivial⟩ (ih _ _ h)
    · replace h := sw_ifN hb2 h
      refine ga_cgeN (t := 27) qd107_6 e1 hb2 rfl ?_
      rw [← sw_sj h] at kk
      exact sq_weak (L := [none, none]) trivial kk
def w107 (T : sw_T) : Option (sw_T) :=
  (w107_2 sw_N T 0).bind fun x7 =>
  some (x7)
theorem A107 {G : sp_G} {z n : Nat} (hn : 228 ≤ n) {T : sw_T} {K : sw_K} {res : sw_T} {Q : sp_R → sp_M → Prop} (h : w107 T = some res) (kk : Q (.inl none) (sw_M z n sw_Ft res K)) : sq_go G 107 0 [some (.ref (z + 221)), none] [] (sw_M z n sw_Ft T K) Q := by
  unfold w107 at h
  refine go_s qd107_0 rfl ?_
  refine go_l (L' := [some (.ref (z + 221)), some (.int (Int32.ofInt 0))]) (st' := []) qd107_1 rfl ?_
  obtain ⟨x7, e8, h⟩ := sw_bind h
  refine sq_weak (L := [some (.ref (z + 221)), some (.int (Int32.ofInt 0))]) ⟨rfl, rfl, trivial⟩ (B107_2 hn (res := x7) ?_ _ _ _ e8)
  rw [← sw_sj h] at kk
  exact ga_rv qd107_27 qr107 kk
theorem qc108 : sq_c 108 = 6 := by decide +kernel
theorem qk108_43 : sw_ck 108 43 98 0 2 6 3 = true := by decide +kernel
theorem qk108_32 : sw_ck 108 32 99 0 3 6 4 = true := by decide +kernel
theorem qr108 : sq_ret 108 = none := by decide +kernel
-- 108: SewingPilesModel.wakesLowest()V
def w108_2 (T : sw_T) : Nat → Int → Option (Int)
  | 0, _ => none
  | m + 1, l1 =>
    (sw_ld T 222 543 4).bind fun v2 =>
    (sw_r2 l1 v2).bind fun _u =>
    if l1 < v2 then
      (w98 T l1 3).bind fun r6 =>
      (sw_r1 r6).bind fun _u =>
      if r6 = 0 then
        w108_2 T m (l1 + 1)
      else
        some (l1)
    else
      some (l1)
theorem B108_2 {G : sp_G} {z n : Nat} (hn : 228 ≤ n) {T : sw_T} {K : sw_K} {res : Int} {Q : sp_R → sp_M → Prop} (kk : sq_go G 108 27 [some (.ref (z + 221)), some (.int (Int32.ofInt res))] [] (sw_M z n sw_Ft T K) Q) : ∀ (m : Nat) (l1 : Int), w108_2 T m l1 = some res → sq_go G 108 2 [some (.ref (z + 221)), some (.int (Int32.ofInt l1))] [] (sw_M z n sw_Ft T K) Q := by
  intro m
  induction m with
  | zero => intro l1 h; cases h
  | succ m ih =>
    intro l1 h
    rw [w108_2] at h
    refine go_l qd108_2 rfl ?_
    refine go_l qd108_3 rfl ?_
    refine ga_gf (v := .ref (z + 222)) qd108_4 qc108 qf6_7 (sw_sl hn (by decide)) rfl rfl ?_
    refine go_s qd108_7 rfl ?_
    obtain ⟨v2, e1, h⟩ := sw_bind h
    refine ga_iald qd108_8 (sw_sl hn (by decide)) e1 ?_
    obtain ⟨_u, e3, h⟩ := sw_bind h
    by_cases hb4 : l1 < v2
    · replace h := sw_ifY hb4 h
      refine ga_cgeY (t := 27) qd108_9 e3 hb4 rfl ?_
      refine go_l qd108_12 rfl ?_
      refine go_l qd108_13 rfl ?_
      refine go_s qd108_14 rfl ?_
      obtain ⟨r6, e5, h⟩ := sw_bind h
      refine ga_kv (a := 221) (as := [.int (Int32.ofInt l1), .int (Int32.ofInt 3)]) (rest := []) qd108_15 qk108_43 (sw_sl hn (by decide)) rfl rfl rfl (Nat.le_of_ble_eq_true rfl) (Nat.le_of_ble_eq_true rfl) rfl (A98 hn e5 (sw_bkv ?_))
      obtain ⟨_u, e7, h⟩ := sw_bind h
      by_cases hb8 : r6 = 0
      · replace h := sw_ifY hb8 h
        refine ga_zneY (t := 27) qd108_18 e7 hb8 rfl ?_
        refine ga_ii (L' := [some (.ref (z + 221)), some (.int (Int32.ofInt (l1 + 1)))]) qd108_21 rfl rfl ?_
        refine ga_jp (t := 2) qd108_24 rfl ?_
        exact sq_weak (L := [some (.ref (z + 221)), some (.int (Int32.ofInt (l1 + 1)))]) ⟨rfl, rfl, trivial⟩ (ih _ h)
      · replace h := sw_ifN hb8 h
        refine ga_zneN (t := 27) qd108_18 e7 hb8 rfl ?_
        rw [← sw_sj h] at kk
        exact sq_weak (L := [some (.ref (z + 221)), some (.int (Int32.ofInt l1))]) ⟨rfl, rfl, trivial⟩ kk
    · replace h := sw_ifN hb4 h
      refine ga_cgeN (t := 27) qd108_9 e3 hb4 rfl ?_
      rw [← sw_sj h] at kk
      exact sq_weak (L := [some (.ref (z + 221)), some (.int (Int32.ofInt l1))]) ⟨rfl, rfl, trivial⟩ kk
def w108_27 (T : sw_T) (l1 : Int) : Option (sw_T) :=
  (sw_ld T 222 543 4).bind fun v12 =>
  (sw_r2 l1 v12).bind fun _u =>
  if l1 < v12 then
    (w99 T l1 3 0).bind fun r16 =>
    (w99 r16 l1 2 0).bind fun r18 =>
    some (r18)
  else
    some (T)
theorem B108_27 {G : sp_G} {z n : Nat} (hn : 228 ≤ n) {T : sw_T} {K : sw_K} {l1 : Int} {res : sw_T} {Q : sp_R → sp_M → Prop} (h : w108_27 T l1 = some res) (kk : Q (.inl none) (sw_M z n sw_Ft res K)) : sq_go G 108 27 [some (.ref (z + 221)), some (.int (Int32.ofInt l1))] [] (sw_M z n sw_Ft T K) Q := by
  unfold w108_27 at h
  refine go_l qd108_27 rfl ?_
  refine go_l qd108_28 rfl ?_
  refine ga_gf (v := .ref (z + 222)) qd108_29 qc108 qf6_7 (sw_sl hn (by decide)) rfl rfl ?_
  refine go_s qd108_32 rfl ?_
  obtain ⟨v12, e11, h⟩ := sw_bind h
  refine ga_iald qd108_33 (sw_sl hn (by decide)) e11 ?_
  obtain ⟨_u, e13, h⟩ := sw_bind h
  by_cases hb14 : l1 < v12
  · replace h := sw_ifY hb14 h
    refine ga_cgeY (t := 51) qd108_34 e13 hb14 rfl ?_
    refine go_l qd108_37 rfl ?_
    refine go_l qd108_38 rfl ?_
    refine go_s qd108_39 rfl ?_
    refine go_s qd108_40 rfl ?_
    obtain ⟨r16, e15, h⟩ := sw_bind h
    refine ga_kv (a := 221) (as := [.int (Int32.ofInt l1), .int (Int32.ofInt 3), .int (Int32.ofInt 0)]) (rest := []) qd108_41 qk108_32 (sw_sl hn (by decide)) rfl rfl rfl (Nat.le_of_ble_eq_true rfl) (Nat.le_of_ble_eq_true rfl) rfl (A99 hn e15 (sw_bk0 ?_))
    refine go_l qd108_44 rfl ?_
    refine go_l qd108_45 rfl ?_
    refine go_s qd108_46 rfl ?_
    refine go_s qd108_47 rfl ?_
    obtain ⟨r18, e17, h⟩ := sw_bind h
    refine ga_kv (a := 221) (as := [.int (Int32.ofInt l1), .int (Int32.ofInt 2), .int (Int32.ofInt 0)]) (rest := []) qd108_48 qk108_32 (sw_sl hn (by decide)) rfl rfl rfl (Nat.le_of_ble_eq_true rfl) (Nat.le_of_ble_eq_true rfl) rfl (A99 hn e17 (sw_bk0 ?_))
    rw [← sw_sj h] at kk
    exact ga_rv qd108_51 qr108 kk
  · replace h := sw_ifN hb14 h
    refine ga_cgeN (t := 51) qd108_34 e13 hb14 rfl ?_
    rw [← sw_sj h] at kk
    exact ga_rv qd108_51 qr108 kk
def w108 (T : sw_T) : Option (sw_T) :=
  (w108_2 T sw_N 0).bind fun x9 =>
  w108_27 T x9
theorem A108 {G : sp_G} {z n : Nat} (hn : 228 ≤ n) {T : sw_T} {K : sw_K} {res : sw_T} {Q : sp_R → sp_M → Prop} (h : w108 T = some res) (kk : Q (.inl none) (sw_M z n sw_Ft res K)) : sq_go G 108 0 [some (.ref (z + 221)), none] [] (sw_M z n sw_Ft T K) Q := by
  unfold w108 at h
  refine go_s qd108_0 rfl ?_
  refine go_l (L' := [some (.ref (z + 221)), some (.int (Int32.ofInt 0))]) (st' := []) qd108_1 rfl ?_
  obtain ⟨x9, e10, h⟩ := sw_bind h
  refine sq_weak (L := [some (.ref (z + 221)), some (.int (Int32.ofInt 0))]) ⟨rfl, rfl, trivial⟩ (B108_2 hn (res := x9) ?_ _ _ e10)
  exact sq_weak (L := [some (.ref (z + 221)), some (.int (Int32.ofInt x9))]) ⟨rfl, rfl, trivial⟩ (B108_27 hn h kk)
theorem qc109 : sq_c 109 = 6 := by decide +kernel
theorem qk109_47 : sw_ck 109 47 103 0 3 6 4 = true := by decide +kernel
theorem qk109_43 : sw_ck 109 43 98 0 2 6 3 = true := by decide +kernel
theorem qk109_50 : sw_ck 109 50 100 0 2 6 3 = true := by decide +kernel
theorem qk109_54 : sw_ck 109 54 108 0 0 6 2 = true := by decide +kernel
theorem qr109 : sq_ret 109 = some .int := by decide +kernel
-- 109: SewingPilesModel.comes(II)I
def w109 (T : sw_T) (p1 : Int) (p2 : Int) : Option (Int × sw_T) :=
  (sw_ld T 222 543 5).bind fun v2 =>
  (sw_ld T 222 543 5).bind fun v4 =>
  (sw_st T 222 543 5 (v4 + 1)).bind fun T6 =>
  (w103 T6 v2 0 p2).bind fun r8 =>
  (w103 r8 v2 1 0).bind fun r10 =>
  (w103 r10 v2 2 p1).bind fun r12 =>
  (w98 r12 p1 8).bind fun r14 =>
  (sw_st r12 222 543 ((71 + (16 * p1)) + r14) v2).bind fun T16 =>
  (w100 T16 p1 8).bind fun r18 =>
  (w108 r18).bind fun r20 =>
  some ((v2, r20))
theorem A109 {G : sp_G} {z n : Nat} (hn : 228 ≤ n) {T : sw_T} {K : sw_K} {p1 : Int} {p2 : Int} {res : Int × sw_T} {Q : sp_R → sp_M → Prop} (h : w109 T p1 p2 = some res) (kk : Q (.inl (some (.int (Int32.ofInt res.1)))) (sw_M z n sw_Ft res.2 K)) : sq_go G 109 0 [some (.ref (z + 221)), some (.int (Int32.ofInt p1)), some (.int (Int32.ofInt p2)), none] [] (sw_M z n sw_Ft T K) Q := by
  unfold w109 at h
  refine go_l qd109_0 rfl ?_
  refine ga_gf (v := .ref (z + 222)) qd109_1 qc109 qf6_7 (sw_sl hn (by decide)) rfl rfl ?_
  refine go_s qd109_4 rfl ?_
  obtain ⟨v2, e1, h⟩ := sw_bind h
  refine ga_iald qd109_5 (sw_sl hn (by decide)) e1 ?_
  refine go_l (L' := [some (.ref (z + 221)), some (.int (Int32.ofInt p1)), some (.int (Int32.ofInt p2)), some (.int (Int32.ofInt v2))]) (st' := []) qd109_6 rfl ?_
  refine go_l qd109_7 rfl ?_
  refine ga_gf (v := .ref (z + 222)) qd109_8 qc109 qf6_7 (sw_sl hn (by decide)) rfl rfl ?_
  refine go_s qd109_11 rfl ?_
  refine go_s qd109_12 rfl ?_
  obtain ⟨v4, e3, h⟩ := sw_bind h
  refine ga_iald qd109_13 (sw_sl hn (by decide)) e3 ?_
  refine go_s qd109_14 rfl ?_
  refine ga_iadd qd109_15 ?_
  obtain ⟨T6, e5, h⟩ := sw_bind h
  refine ga_iast qd109_16 (sw_sl hn (by decide)) e5 ?_
  refine go_l qd109_17 rfl ?_
  refine go_l qd109_18 rfl ?_
  refine go_s qd109_19 rfl ?_
  refine go_l qd109_20 rfl ?_
  obtain ⟨r8, e7, h⟩ := sw_bind h
  refine ga_kv (a := 221) (as := [.int (Int32.ofInt v2), .int (Int32.ofInt 0), .int (Int32.ofInt p2)]) (rest := []) qd109_21 qk109_47 (sw_sl hn (by decide)) rfl rfl rfl (Nat.le_of_ble_eq_true rfl) (Nat.le_of_ble_eq_true rfl) rfl (A103 hn e7 (sw_bk0 ?_))
  refine go_l qd109_24 rfl ?_
  refine go_l qd109_25 rfl ?_
  refine go_s qd109_26 rfl ?_
  refine go_s qd109_27 rfl ?_
  obtain ⟨r10, e9, h⟩ := sw_bind h
  refine ga_kv (a := 221) (as := [.int (Int32.ofInt v2), .int (Int32.ofInt 1), .int (Int32.ofInt 0)]) (rest := []) qd109_28 qk109_47 (sw_sl hn (by decide)) rfl rfl rfl (Nat.le_of_ble_eq_true rfl) (Nat.le_of_ble_eq_true rfl) rfl (A103 hn e9 (sw_bk0 ?_))
  refine go_l qd109_31 rfl ?_
  refine go_l qd109_32 rfl ?_
  refine go_s qd109_33 rfl ?_
  refine go_l qd109_34 rfl ?_
  obtain ⟨r12, e11, h⟩ := sw_bind h
  refine ga_kv (a := 221) (as := [.int (Int32.ofInt v2), .int (Int32.ofInt 2), .int (Int32.ofInt p1)]) (rest := []) qd109_35 qk109_47 (sw_sl hn (by decide)) rfl rfl rfl (Nat.le_of_ble_eq_true rfl) (Nat.le_of_ble_eq_true rfl) rfl (A103 hn e11 (sw_bk0 ?_))
  refine go_l qd109_38 rfl ?_
  refine ga_gf (v := .ref (z + 222)) qd109_39 qc109 qf6_7 (sw_sl hn (by decide)) rfl rfl ?_
  refine ga_k8 qd109_42 rfl ?_
  refine ga_k8 qd109_44 rfl ?_
  refine go_l qd109_46 rfl ?_
  refine ga_imul qd109_47 ?_
  refine ga_iadd qd109_48 ?_
  refine go_l qd109_49 rfl ?_
  refine go_l qd109_50 rfl ?_
  refine ga_k8 qd109_51 rfl ?_
  obtain ⟨r14, e13, h⟩ := sw_bind h
  refine ga_kv (a := 221) (as := [.int (Int32.ofInt p1), .int (Int32.ofInt 8)]) (rest := [.int (Int32.ofInt (71 + (16 * p1))), .ref (z + 222)]) qd109_53 qk109_43 (sw_sl hn (by decide)) rfl rfl rfl (Nat.le_of_ble_eq_true rfl) (Nat.le_of_ble_eq_true rfl) rfl (A98 hn e13 (sw_bkv ?_))
  refine ga_iadd qd109_56 ?_
  refine go_l qd109_57 rfl ?_
  obtain ⟨T16, e15, h⟩ := sw_bind h
  refine ga_iast qd109_58 (sw_sl hn (by decide)) e15 ?_
  refine go_l qd109_59 rfl ?_
  refine go_l qd109_60 rfl ?_
  refine ga_k8 qd109_61 rfl ?_
  obtain ⟨r18, e17, h⟩ := sw_bind h
  refine ga_kv (a := 221) (as := [.int (Int32.ofInt p1), .int (Int32.ofInt 8)]) (rest := []) qd109_63 qk109_50 (sw_sl hn (by decide)) rfl rfl rfl (Nat.le_of_ble_eq_true rfl) (Nat.le_of_ble_eq_true rfl) rfl (A100 hn e17 (sw_bk0 ?_))
  refine go_l qd109_66 rfl ?_
  obtain ⟨r20, e19, h⟩ := sw_bind h
  refine ga_kv (a := 221) (as := []) (rest := []) qd109_67 qk109_54 (sw_sl hn (by decide)) rfl rfl rfl (Nat.le_of_ble_eq_true rfl) (Nat.le_of_ble_eq_true rfl) rfl (A108 hn e19 (sw_bk0 ?_))
  refine go_l qd109_70 rfl ?_
  rw [← sw_sj h] at kk
  exact ga_ri qd109_71 qr109 kk
theorem qk110_32 : sw_ck 110 32 99 0 3 6 4 = true := by decide +kernel
theorem qk110_47 : sw_ck 110 47 103 0 3 6 4 = true := by decide +kernel
theorem qc110 : sq_c 110 = 6 := by decide +kernel
theorem qk110_57 : sw_ck 110 57 102 0 2 6 3 = true := by decide +kernel
theorem qk110_60 : sw_ck 110 60 109 0 2 6 4 = true := by decide +kernel
theorem qr110 : sq_ret 110 = none := by decide +kernel
-- 110: SewingPilesModel.takes(II)V
def w110 (T : sw_T) (p1 : Int) (p2 : Int) : Option (sw_T) :=
  (w99 T p1 1 (p2 + 1)).bind fun r2 =>
  (w99 r2 p1 2 0).bind fun r4 =>
  (w103 r4 p2 1 1).bind fun r6 =>
  (w103 r6 p2 2 p1).bind fun r8 =>
  (sw_ld r8 222 543 7).bind fun v10 =>
  (sw_st r8 222 543 7 (v10 + 1)).bind fun T12 =>
  (w102 T12 p2 0).bind fun r14 =>
  (sw_ld T12 222 543 0).bind fun v16 =>
  (sw_r2 r14 v16).bind fun _u =>
  if v16 < r14 then
    (sw_ld T12 222 543 5).bind fun v20 =>
    (sw_r2 v20 120).bind fun _u =>
    if v20 < 120 then
      (sw_dv r14 2).bind fun _u =>
      (w103 T12 p2 0 (r14 - (r14 / 2))).bind fun r25 =>
      (sw_ld r25 222 543 6).bind fun v27 =>
      (sw_st r25 222 543 6 (v27 + 1)).bind fun T29 =>
      (sw_dv r14 2).bind fun _u =>
      (w109 T29 p1 (r14 / 2)).bind fun r32 =>
      some (r32.2)
    else
      some (T12)
  else
    some (T12)
theorem A110 {G : sp_G} {z n : Nat} (hn : 228 ≤ n) {T : sw_T} {K : sw_K} {p1 : Int} {p2 : Int} {res : sw_T} {Q : sp_R → sp_M → Prop} (h : w110 T p1 p2 = some res) (kk : Q (.inl none) (sw_M z n sw_Ft res K)) : sq_go G 110 0 [some (.ref (z + 221)), some (.int (Int32.ofInt p1)), some (.int (Int32.ofInt p2)), none] [] (sw_M z n sw_Ft T K) Q := by
  unfold w110 at h
  refine go_l qd110_0 rfl ?_
  refine go_l qd110_1 rfl ?_
  refine go_s qd110_2 rfl ?_
  refine go_l qd110_3 rfl ?_
  refine go_s qd110_4 rfl ?_
  refine ga_iadd qd110_5 ?_
  obtain ⟨r2, e1, h⟩ := sw_bind h
  refine ga_kv (a := 221) (as := [.int (Int32.ofInt p1), .int (Int32.ofInt 1), .int (Int32.ofInt (p2 + 1))]) (rest := []) qd110_6 qk110_32 (sw_sl hn (by decide)) rfl rfl rfl (Nat.le_of_ble_eq_true rfl) (Nat.le_of_ble_eq_true rfl) rfl (A99 hn e1 (sw_bk0 ?_))
  refine go_l qd110_9 rfl ?_
  refine go_l qd110_10 rfl ?_
  refine go_s qd110_11 rfl ?_
  refine go_s qd110_12 rfl ?_
  obtain ⟨r4, e3, h⟩ := sw_bind h
  refine ga_kv (a := 221) (as := [.int (Int32.ofInt p1), .int (Int32.ofInt 2), .int (Int32.ofInt 0)]) (rest := []) qd110_13 qk110_32 (sw_sl hn (by decide)) rfl rfl rfl (Nat.le_of_ble_eq_true rfl) (Nat.le_of_ble_eq_true rfl) rfl (A99 hn e3 (sw_bk0 ?_))
  refine go_l qd110_16 rfl ?_
  refine go_l qd110_17 rfl ?_
  refine go_s qd110_18 rfl ?_
  refine go_s qd110_19 rfl ?_
  obtain ⟨r6, e5, h⟩ := sw_bind h
  refine ga_kv (a := 221) (as := [.int (Int32.ofInt p2), .int (Int32.ofInt 1), .int (Int32.ofInt 1)]) (rest := []) qd110_20 qk110_47 (sw_sl hn (by decide)) rfl rfl rfl (Nat.le_of_ble_eq_true rfl) (Nat.le_of_ble_eq_true rfl) rfl (A103 hn e5 (sw_bk0 ?_))
  refine go_l qd110_23 rfl ?_
  refine go_l qd110_24 rfl ?_
  refine go_s qd110_25 rfl ?_
  refine go_l qd110_26 rfl ?_
  obtain ⟨r8, e7, h⟩ := sw_bind h
  refine ga_kv (a := 221) (as := [.int (Int32.ofInt p2), .int (Int32.ofInt 2), .int (Int32.ofInt p1)]) (rest := []) qd110_27 qk110_47 (sw_sl hn (by decide)) rfl rfl rfl (Nat.le_of_ble_eq_true rfl) (Nat.le_of_ble_eq_true rfl) rfl (A103 hn e7 (sw_bk0 ?_))
  refine go_l qd110_30 rfl ?_
  refine ga_gf (v := .ref (z + 222)) qd110_31 qc110 qf6_7 (sw_sl hn (by decide)) rfl rfl ?_
  refine ga_k8 qd110_34 rfl ?_
  refine go_s qd110_36 rfl ?_
  obtain ⟨v10, e9, h⟩ := sw_bind h
  refine ga_iald qd110_37 (sw_sl hn (by decide)) e9 ?_
  refine go_s qd110_38 rfl ?_
  refine ga_iadd qd110_39 ?_
  obtain ⟨T12, e11, h⟩ := sw_bind h
  refine ga_iast qd110_40 (sw_sl hn (by decide)) e11 ?_
  refine go_l qd110_41 rfl ?_
  refine go_l qd110_42 rfl ?_
  refine go_s qd110_43 rfl ?_
  obtain ⟨r14, e13, h⟩ := sw_bind h
  refine ga_kv (a := 221) (as := [.int (Int32.ofInt p2), .int (Int32.ofInt 0)]) (rest := []) qd110_44 qk110_57 (sw_sl hn (by decide)) rfl rfl rfl (Nat.le_of_ble_eq_true rfl) (Nat.le_of_ble_eq_true rfl) rfl (A102 hn e13 (sw_bkv ?_))
  refine go_l (L' := [some (.ref (z + 221)), some (.int (Int32.ofInt p1)), some (.int (Int32.ofInt p2)), some (.int (Int32.ofInt r14))]) (st' := []) qd110_47 rfl ?_
  refine go_l qd110_48 rfl ?_
  refine go_l qd110_49 rfl ?_
  refine ga_gf (v := .ref (z + 222)) qd110_50 qc110 qf6_7 (sw_sl hn (by decide)) rfl rfl ?_
  refine go_s qd110_53 rfl ?_
  obtain ⟨v16, e15, h⟩ := sw_bind h
  refine ga_iald qd110_54 (sw_sl hn (by decide)) e15 ?_
  obtain ⟨_u, e17, h⟩ := sw_bind h
  by_cases hb18 : v16 < r14
  · replace h := sw_ifY hb18 h
    refine ga_cleY (t := 100) qd110_55 e17 hb18 rfl ?_
    refine go_l qd110_58 rfl ?_
    refine ga_gf (v := .ref (z + 222)) qd110_59 qc110 qf6_7 (sw_sl hn (by decide)) rfl rfl ?_
    refine go_s qd110_62 rfl ?_
    obtain ⟨v20, e19, h⟩ := sw_bind h
    refine ga_iald qd110_63 (sw_sl hn (by decide)) e19 ?_
    refine ga_k8 qd110_64 rfl ?_
    obtain ⟨_u, e21, h⟩ := sw_bind h
    by_cases hb22 : v20 < 120
    · replace h := sw_ifY hb22 h
      refine ga_cgeY (t := 100) qd110_66 e21 hb22 rfl ?_
      refine go_l qd110_69 rfl ?_
      refine go_l qd110_70 rfl ?_
      refine go_s qd110_71 rfl ?_
      refine go_l qd110_72 rfl ?_
      refine go_l qd110_73 rfl ?_
      refine go_s qd110_74 rfl ?_
      obtain ⟨_u, e23, h⟩ := sw_bind h
      refine ga_idiv qd110_75 e23 ?_
      refine ga_isub qd110_76 ?_
      obtain ⟨r25, e24, h⟩ := sw_bind h
      refine ga_kv (a := 221) (as := [.int (Int32.ofInt p2), .int (Int32.ofInt 0), .int (Int32.ofInt (r14 - (r14 / 2)))]) (rest := []) qd110_77 qk110_47 (sw_sl hn (by decide)) rfl rfl rfl (Nat.le_of_ble_eq_true rfl) (Nat.le_of_ble_eq_true rfl) rfl (A103 hn e24 (sw_bk0 ?_))
      refine go_l qd110_80 rfl ?_
      refine ga_gf (v := .ref (z + 222)) qd110_81 qc110 qf6_7 (sw_sl hn (by decide)) rfl rfl ?_
      refine ga_k8 qd110_84 rfl ?_
      refine go_s qd110_86 rfl ?_
      obtain ⟨v27, e26, h⟩ := sw_bind h
      refine ga_iald qd110_87 (sw_sl hn (by decide)) e26 ?_
      refine go_s qd110_88 rfl ?_
      refine ga_iadd qd110_89 ?_
      obtain ⟨T29, e28, h⟩ := sw_bind h
      refine ga_iast qd110_90 (sw_sl hn (by decide)) e28 ?_
      refine go_l qd110_91 rfl ?_
      refine go_l qd110_92 rfl ?_
      refine go_l qd110_93 rfl ?_
      refine go_s qd110_94 rfl ?_
      obtain ⟨_u, e30, h⟩ := sw_bind h
      refine ga_idiv qd110_95 e30 ?_
      obtain ⟨r32, e31, h⟩ := sw_bind h
      refine ga_kv (a := 221) (as := [.int (Int32.ofInt p1), .int (Int32.ofInt (r14 / 2))]) (rest := []) qd110_96 qk110_60 (sw_sl hn (by decide)) rfl rfl rfl (Nat.le_of_ble_eq_true rfl) (Nat.le_of_ble_eq_true rfl) rfl (A109 hn e31 (sw_bkv ?_))
      refine go_s qd110_99 rfl ?_
      rw [← sw_sj h] at kk
      exact ga_rv qd110_100 qr110 kk
    · replace h := sw_ifN hb22 h
      refine ga_cgeN (t := 100) qd110_66 e21 hb22 rfl ?_
      rw [← sw_sj h] at kk
      exact ga_rv qd110_100 qr110 kk
  · replace h := sw_ifN hb18 h
    refine ga_cleN (t := 100) qd110_55 e17 hb18 rfl ?_
    rw [← sw_sj h] at kk
    exact ga_rv qd110_100 qr110 kk
theorem qk111_43 : sw_ck 111 43 98 0 2 6 3 = true := by decide +kernel
theorem qk111_32 : sw_ck 111 32 99 0 3 6 4 = true := by decide +kernel
theorem qk111_63 : sw_ck 111 63 101 0 2 6 3 = true := by decide +kernel
theorem qk111_66 : sw_ck 111 66 110 0 2 6 4 = true := by decide +kernel
theorem qr111 : sq_ret 111 = none := by decide +kernel
-- 111: SewingPilesModel.takesNear(I)V
def w111 (T : sw_T) (p1 : Int) : Option (sw_T) :=
  (w98 T p1 8).bind fun r2 =>
  (w99 T p1 8 (r2 - 1)).bind fun r4 =>
  (w98 r4 p1 8).bind fun r6 =>
  (w101 r4 p1 r6).bind fun r8 =>
  (w110 r4 p1 r8).bind fun r10 =>
  some (r10)
theorem A111 {G : sp_G} {z n : Nat} (hn : 228 ≤ n) {T : sw_T} {K : sw_K} {p1 : Int} {res : sw_T} {Q : sp_R → sp_M → Prop} (h : w111 T p1 = some res) (kk : Q (.inl none) (sw_M z n sw_Ft res K)) : sq_go G 111 0 [some (.ref (z + 221)), some (.int (Int32.ofInt p1))] [] (sw_M z n sw_Ft T K) Q := by
  unfold w111 at h
  refine go_l qd111_0 rfl ?_
  refine go_l qd111_1 rfl ?_
  refine ga_k8 qd111_2 rfl ?_
  refine go_l qd111_4 rfl ?_
  refine go_l qd111_5 rfl ?_
  refine ga_k8 qd111_6 rfl ?_
  obtain ⟨r2, e1, h⟩ := sw_bind h
  refine ga_kv (a := 221) (as := [.int (Int32.ofInt p1), .int (Int32.ofInt 8)]) (rest := [.int (Int32.ofInt 8), .int (Int32.ofInt p1), .ref (z + 221)]) qd111_8 qk111_43 (sw_sl hn (by decide)) rfl rfl rfl (Nat.le_of_ble_eq_true rfl) (Nat.le_of_ble_eq_true rfl) rfl (A98 hn e1 (sw_bkv ?_))
  refine go_s qd111_11 rfl ?_
  refine ga_isub qd111_12 ?_
  obtain ⟨r4, e3, h⟩ := sw_bind h
  refine ga_kv (a := 221) (as := [.int (Int32.ofInt p1), .int (Int32.ofInt 8), .int (Int32.ofInt (r2 - 1))]) (rest := []) qd111_13 qk111_32 (sw_sl hn (by decide)) rfl rfl rfl (Nat.le_of_ble_eq_true rfl) (Nat.le_of_ble_eq_true rfl) rfl (A99 hn e3 (sw_bk0 ?_))
  refine go_l qd111_16 rfl ?_
  refine go_l qd111_17 rfl ?_
  refine go_l qd111_18 rfl ?_
  refine go_l qd111_19 rfl ?_
  refine go_l qd111_20 rfl ?_
  refine go_l qd111_21 rfl ?_
  refine ga_k8 qd111_22 rfl ?_
  obtain ⟨r6, e5, h⟩ := sw_bind h
  refine ga_kv (a := 221) (as := [.int (Int32.ofInt p1), .int (Int32.ofInt 8)]) (rest := [.int (Int32.ofInt p1), .ref (z + 221), .int (Int32.ofInt p1), .ref (z + 221)]) qd111_24 qk111_43 (sw_sl hn (by decide)) rfl rfl rfl (Nat.le_of_ble_eq_true rfl) (Nat.le_of_ble_eq_true rfl) rfl (A98 hn e5 (sw_bkv ?_))
  obtain ⟨r8, e7, h⟩ := sw_bind h
  refine ga_kv (a := 221) (as := [.int (Int32.ofInt p1), .int (Int32.ofInt r6)]) (rest := [.int (Int32.ofInt p1), .ref (z + 221)]) qd111_27 qk111_63 (sw_sl hn (by decide)) rfl rfl rfl (Nat.le_of_ble_eq_true rfl) (Nat.le_of_ble_eq_true rfl) rfl (A101 hn e7 (sw_bkv ?_))
  obtain ⟨r10, e9, h⟩ := sw_bind h
  refine ga_kv (a := 221) (as := [.int (Int32.ofInt p1), .int (Int32.ofInt r8)]) (rest := []) qd111_30 qk111_66 (sw_sl hn (by decide)) rfl rfl rfl (Nat.le_of_ble_eq_true rfl) (Nat.le_of_ble_eq_true rfl) rfl (A110 hn e9 (sw_bk0 ?_))
  rw [← sw_sj h] at kk
  exact ga_rv qd111_33 qr111 kk
theorem qk112_63 : sw_ck 112 63 101 0 2 6 3 = true := by decide +kernel
theorem qk112_43 : sw_ck 112 43 98 0 2 6 3 = true := by decide +kernel
theorem qk112_32 : sw_ck 112 32 99 0 3 6 4 = true := by decide +kernel
theorem qc112 : sq_c 112 = 6 := by decide +kernel
theorem qk112_50 : sw_ck 112 50 100 0 2 6 3 = true := by decide +kernel
theorem qk112_66 : sw_ck 112 66 110 0 2 6 4 = true := by decide +kernel
theorem qr112 : sq_ret 112 = none := by decide +kernel
-- 112: SewingPilesModel.takesFar(II)V
def w112_26 (l1 : Int) (l2 : Int) (l3 : Int) : Nat → sw_T → Int → Option (sw_T)
  | 0, _, _ => none
  | m + 1, T, l4 =>
    (w98 T l2 8).bind fun r8 =>
    (sw_r2 l4 r8).bind fun _u =>
    if l4 < r8 then
      (w101 T l2 (l4 + 1)).bind fun r12 =>
      (sw_st T 222 543 ((71 + (16 * l2)) + l4) r12).bind fun T14 =>
      w112_26 l1 l2 l3 m T14 (l4 + 1)
    else
      some (T)
theorem B112_26 {G : sp_G} {z n : Nat} (hn : 228 ≤ n) {l1 : Int} {l2 : Int} {l3 : Int} {K : sw_K} {res : sw_T} {Q : sp_R → sp_M → Prop} (kk : sq_go G 112 68 [some (.ref (z + 221)), some (.int (Int32.ofInt l1)), none, some (.int (Int32.ofInt l3)), none] [] (sw_M z n sw_Ft res K) Q) : ∀ (m : Nat) (T : sw_T) (l4 : Int), w112_26 l1 l2 l3 m T l4 = some res → sq_go G 112 26 [some (.ref (z + 221)), some (.int (Int32.ofInt l1)), some (.int (Int32.ofInt l2)), some (.int (Int32.ofInt l3)), some (.int (Int32.ofInt l4))] [] (sw_M z n sw_Ft T K) Q := by
  intro m
  induction m with
  | zero => intro T l4 h; cases h
  | succ m ih =>
    intro T l4 h
    rw [w112_26] at h
    refine go_l qd112_26 rfl ?_
    refine go_l qd112_28 rfl ?_
    refine go_l qd112_29 rfl ?_
    refine ga_k8 qd112_30 rfl ?_
    obtain ⟨r8, e7, h⟩ := sw_bind h
    refine ga_kv (a := 221) (as := [.int (Int32.ofInt l2), .int (Int32.ofInt 8)]) (rest := [.int (Int32.ofInt l4)]) qd112_32 qk112_43 (sw_sl hn (by decide)) rfl rfl rfl (Nat.le_of_ble_eq_true rfl) (Nat.le_of_ble_eq_true rfl) rfl (A98 hn e7 (sw_bkv ?_))
    obtain ⟨_u, e9, h⟩ := sw_bind h
    by_cases hb10 : l4 < r8
    · replace h := sw_ifY hb10 h
      refine ga_cgeY (t := 68) qd112_35 e9 hb10 rfl ?_
      refine go_l qd112_38 rfl ?_
      refine ga_gf (v := .ref (z + 222)) qd112_39 qc112 qf6_7 (sw_sl hn (by decide)) rfl rfl ?_
      refine ga_k8 qd112_42 rfl ?_
      refine ga_k8 qd112_44 rfl ?_
      refine go_l qd112_46 rfl ?_
      refine ga_imul qd112_47 ?_
      refine ga_iadd qd112_48 ?_
      refine go_l qd112_49 rfl ?_
      refine ga_iadd qd112_51 ?_
      refine go_l qd112_52 rfl ?_
      refine go_l qd112_53 rfl ?_
      refine go_l qd112_54 rfl ?_
      refine go_s qd112_56 rfl ?_
      refine ga_iadd qd112_57 ?_
      obtain ⟨r12, e11, h⟩ := sw_bind h
      refine ga_kv (a := 221) (as := [.int (Int32.ofInt l2), .int (Int32.ofInt (l4 + 1))]) (rest := [.int (Int32.ofInt ((71 + (16 * l2)) + l4)), .ref (z + 222)]) qd112_58 qk112_63 (sw_sl hn (by decide)) rfl rfl rfl (Nat.le_of_ble_eq_true rfl) (Nat.le_of_ble_eq_true rfl) rfl (A101 hn e11 (sw_bkv ?_))
      obtain ⟨T14, e13, h⟩ := sw_bind h
      refine ga_iast qd112_61 (sw_sl hn (by decide)) e13 ?_
      refine ga_ii (L' := [some (.ref (z + 221)), some (.int (Int32.ofInt l1)), some (.int (Int32.ofInt l2)), some (.int (Int32.ofInt l3)), some (.int (Int32.ofInt (l4 + 1)))]) qd112_62 rfl rfl ?_
      refine ga_jp (t := 26) qd112_65 rfl ?_
      exact sq_weak (L := [some (.ref (z + 221)), some (.int (Int32.ofInt l1)), some (.int (Int32.ofInt l2)), some (.int (Int32.ofInt l3)), some (.int (Int32.ofInt (l4 + 1)))]) ⟨rfl, rfl, rfl, rfl, rfl, trivial⟩ (ih _ _ h)
    · replace h := sw_ifN hb10 h
      refine ga_cgeN (t := 68) qd112_35 e9 hb10 rfl ?_
      rw [← sw_sj h] at kk
      exact sq_weak (L := [some (.ref (z + 221)), some (.int (Int32.ofInt l1)), none, some (.int (Int32.ofInt l3)), none]) ⟨rfl, rfl, rfl, trivial⟩ kk
def w112 (T : sw_T) (p1 : Int) (p2 : Int) : Option (sw_T) :=
  (w101 T p2 0).bind fun r2 =>
  (w98 T p2 8).bind fun r4 =>
  (w99 T p2 8 (r4 - 1)).bind fun r6 =>
  (w112_26 p1 p2 r2 sw_N r6 0).bind fun x15 =>
  (w100 x15 p1 5).bind fun r18 =>
  (w110 r18 p1 r2).bind fun r20 =>
  some (r20)
theorem A112 {G : sp_G} {z n : Nat} (hn : 228 ≤ n) {T : sw_T} {K : sw_K} {p1 : Int} {p2 : Int} {res : sw_T} {Q : sp_R → sp_M → Prop} (h : w112 T p1 p2 = some res) (kk : Q (.inl none) (sw_M z n sw_Ft res K)) : sq_go G 112 0 [some (.ref (z + 221)), some (.int (Int32.ofInt p1)), some (.int (Int32.ofInt p2)), none, none] [] (sw_M z n sw_Ft T K) Q := by
  unfold w112 at h
  refine go_l qd112_0 rfl ?_
  refine go_l qd112_1 rfl ?_
  refine go_s qd112_2 rfl ?_
  obtain ⟨r2, e1, h⟩ := sw_bind h
  refine ga_kv (a := 221) (as := [.int (Int32.ofInt p2), .int (Int32.ofInt 0)]) (rest := []) qd112_3 qk112_63 (sw_sl hn (by decide)) rfl rfl rfl (Nat.le_of_ble_eq_true rfl) (Nat.le_of_ble_eq_true rfl) rfl (A101 hn e1 (sw_bkv ?_))
  refine go_l (L' := [some (.ref (z + 221)), some (.int (Int32.ofInt p1)), some (.int (Int32.ofInt p2)), some (.int (Int32.ofInt r2)), none]) (st' := []) qd112_6 rfl ?_
  refine go_l qd112_7 rfl ?_
  refine go_l qd112_8 rfl ?_
  refine ga_k8 qd112_9 rfl ?_
  refine go_l qd112_11 rfl ?_
  refine go_l qd112_12 rfl ?_
  refine ga_k8 qd112_13 rfl ?_
  obtain ⟨r4, e3, h⟩ := sw_bind h
  refine ga_kv (a := 221) (as := [.int (Int32.ofInt p2), .int (Int32.ofInt 8)]) (rest := [.int (Int32.ofInt 8), .int (Int32.ofInt p2), .ref (z + 221)]) qd112_15 qk112_43 (sw_sl hn (by decide)) rfl rfl rfl (Nat.le_of_ble_eq_true rfl) (Nat.le_of_ble_eq_true rfl) rfl (A98 hn e3 (sw_bkv ?_))
  refine go_s qd112_18 rfl ?_
  refine ga_isub qd112_19 ?_
  obtain ⟨r6, e5, h⟩ := sw_bind h
  refine ga_kv (a := 221) (as := [.int (Int32.ofInt p2), .int (Int32.ofInt 8), .int (Int32.ofInt (r4 - 1))]) (rest := []) qd112_20 qk112_32 (sw_sl hn (by decide)) rfl rfl rfl (Nat.le_of_ble_eq_true rfl) (Nat.le_of_ble_eq_true rfl) rfl (A99 hn e5 (sw_bk0 ?_))
  refine go_s qd112_23 rfl ?_
  refine go_l (L' := [some (.ref (z + 221)), some (.int (Int32.ofInt p1)), some (.int (Int32.ofInt p2)), some (.int (Int32.ofInt r2)), some (.int (Int32.ofInt 0))]) (st' := []) qd112_24 rfl ?_
  obtain ⟨x15, e16, h⟩ := sw_bind h
  refine sq_weak (L := [some (.ref (z + 221)), some (.int (Int32.ofInt p1)), some (.int (Int32.ofInt p2)), some (.int (Int32.ofInt r2)), some (.int (Int32.ofInt 0))]) ⟨rfl, rfl, rfl, rfl, rfl, trivial⟩ (B112_26 hn (res := x15) ?_ _ _ _ e16)
  refine go_l qd112_68 rfl ?_
  refine go_l qd112_69 rfl ?_
  refine go_s qd112_70 rfl ?_
  obtain ⟨r18, e17, h⟩ := sw_bind h
  refine ga_kv (a := 221) (as := [.int (Int32.ofInt p1), .int (Int32.ofInt 5)]) (rest := []) qd112_71 qk112_50 (sw_sl hn (by decide)) rfl rfl rfl (Nat.le_of_ble_eq_true rfl) (Nat.le_of_ble_eq_true rfl) rfl (A100 hn e17 (sw_bk0 ?_))
  refine go_l qd112_74 rfl ?_
  refine go_l qd112_75 rfl ?_
  refine go_l qd112_76 rfl ?_
  obtain ⟨r20, e19, h⟩ := sw_bind h
  refine ga_kv (a := 221) (as := [.int (Int32.ofInt p1), .int (Int32.ofInt r2)]) (rest := []) qd112_77 qk112_66 (sw_sl hn (by decide)) rfl rfl rfl (Nat.le_of_ble_eq_true rfl) (Nat.le_of_ble_eq_true rfl) rfl (A110 hn e19 (sw_bk0 ?_))
  rw [← sw_sj h] at kk
  exact ga_rv qd112_80 qr112 kk
theorem qk113_43 : sw_ck 113 43 98 0 2 6 3 = true := by decide +kernel
theorem qr113 : sq_ret 113 = some .boolean := by decide +kernel
-- 113: SewingPilesModel.canTakeFrom(II)Z
def w113_32 (T : sw_T) (l1 : Int) (l2 : Int) (l3 : Int) (s0 : Int) : Option (Int) :=
  (sw_r2 l1 l2).bind fun _u =>
  if l1 = l2 then
    some (0)
  else
    (sw_r2 l3 1).bind fun _u =>
    if 1 < l3 then
      some (1)
    else
      (sw_r2 l3 1).bind fun _u =>
      if l3 = 1 then
        (sw_r1 s0).bind fun _u =>
        if s0 = 0 then
          some (0)
        else
          some (1)
      else
        some (0)
theorem B113_32 {G : sp_G} {z n : Nat} (hn : 228 ≤ n) {T : sw_T} {K : sw_K} {l1 : Int} {l2 : Int} {l3 : Int} {s0 : Int} {res : Int} {Q : sp_R → sp_M → Prop} (h : w113_32 T l1 l2 l3 s0 = some res) (kk : Q (.inl (some (.int (Int32.ofInt res)))) (sw_M z n sw_Ft T K)) : sq_go G 113 32 [none, some (.int (Int32.ofInt l1)), some (.int (Int32.ofInt l2)), some (.int (Int32.ofInt l3)), none] [.int (Int32.ofInt s0)] (sw_M z n sw_Ft T K) Q := by
  unfold w113_32 at h
  refine go_l (L' := [none, some (.int (Int32.ofInt l1)), some (.int (Int32.ofInt l2)), some (.int (Int32.ofInt l3)), some (.int (Int32.ofInt s0))]) (st' := []) qd113_32 rfl ?_
  refine go_l qd113_34 rfl ?_
  refine go_l qd113_35 rfl ?_
  obtain ⟨_u, e7, h⟩ := sw_bind h
  by_cases hb8 : l1 = l2
  · replace h := sw_ifY hb8 h
    refine ga_ceqY (t := 58) qd113_36 e7 hb8 rfl ?_
    refine go_s qd113_58 rfl ?_
    rw [← sw_sj h] at kk
    exact ga_rb (u := ()) qd113_59 qr113 (by decide) kk
  · replace h := sw_ifN hb8 h
    refine ga_ceqN (t := 58) qd113_36 e7 hb8 rfl ?_
    refine go_l qd113_39 rfl ?_
    refine go_s qd113_40 rfl ?_
    obtain ⟨_u, e9, h⟩ := sw_bind h
    by_cases hb10 : 1 < l3
    · replace h := sw_ifY hb10 h
      refine ga_cgtY (t := 54) qd113_41 e9 hb10 rfl ?_
      refine go_s qd113_54 rfl ?_
      refine ga_jp (t := 59) qd113_55 rfl ?_
      rw [← sw_sj h] at kk
      exact ga_rb (u := ()) qd113_59 qr113 (by decide) kk
    · replace h := sw_ifN hb10 h
      refine ga_cgtN (t := 54) qd113_41 e9 hb10 rfl ?_
      refine go_l qd113_44 rfl ?_
      refine go_s qd113_45 rfl ?_
      obtain ⟨_u, e11, h⟩ := sw_bind h
      by_cases hb12 : l3 = 1
      · replace h := sw_ifY hb12 h
        refine ga_cneY (t := 58) qd113_46 e11 hb12 rfl ?_
        refine go_l qd113_49 rfl ?_
        obtain ⟨_u, e13, h⟩ := sw_bind h
        by_cases hb14 : s0 = 0
        · replace h := sw_ifY hb14 h
          refine ga_zeqY (t := 58) qd113_51 e13 hb14 rfl ?_
          refine go_s qd113_58 rfl ?_
          rw [← sw_sj h] at kk
          exact ga_rb (u := ()) qd113_59 qr113 (by decide) kk
        · replace h := sw_ifN hb14 h
          refine ga_zeqN (t := 58) qd113_51 e13 hb14 rfl ?_
          refine go_s qd113_54 rfl ?_
          refine ga_jp (t := 59) qd113_55 rfl ?_
          rw [← sw_sj h] at kk
          exact ga_rb (u := ()) qd113_59 qr113 (by decide) kk
      · replace h := sw_ifN hb12 h
        refine ga_cneN (t := 58) qd113_46 e11 hb12 rfl ?_
        refine go_s qd113_58 rfl ?_
        rw [← sw_sj h] at kk
        exact ga_rb (u := ()) qd113_59 qr113 (by decide) kk
def w113_27 (T : sw_T) (l1 : Int) (l2 : Int) (l3 : Int) : Option (Int) :=
  w113_32 T l1 l2 l3 1
theorem B113_27 {G : sp_G} {z n : Nat} (hn : 228 ≤ n) {T : sw_T} {K : sw_K} {l1 : Int} {l2 : Int} {l3 : Int} {res : Int} {Q : sp_R → sp_M → Prop} (h : w113_27 T l1 l2 l3 = some res) (kk : Q (.inl (some (.int (Int32.ofInt res)))) (sw_M z n sw_Ft T K)) : sq_go G 113 27 [none, some (.int (Int32.ofInt l1)), some (.int (Int32.ofInt l2)), some (.int (Int32.ofInt l3)), none] [] (sw_M z n sw_Ft T K) Q := by
  unfold w113_27 at h
  refine go_s qd113_27 rfl ?_
  refine ga_jp (t := 32) qd113_28 rfl ?_
  exact sq_weak (L := [none, some (.int (Int32.ofInt l1)), some (.int (Int32.ofInt l2)), some (.int (Int32.ofInt l3)), none]) ⟨rfl, rfl, rfl, trivial⟩ (B113_32 hn h kk)
def w113 (T : sw_T) (p1 : Int) (p2 : Int) : Option (Int) :=
  (w98 T p2 8).bind fun r2 =>
  (w98 T p2 3).bind fun r4 =>
  (sw_r2 r4 1).bind fun _u =>
  if r4 = 1 then
    w113_27 T p1 p2 r2
  else
    (w98 T p2 1).bind fun r16 =>
    (sw_r1 r16).bind fun _u =>
    if 0 < r16 then
      w113_27 T p1 p2 r2
    else
      w113_32 T p1 p2 r2 0
theorem A113 {G : sp_G} {z n : Nat} (hn : 228 ≤ n) {T : sw_T} {K : sw_K} {p1 : Int} {p2 : Int} {res : Int} {Q : sp_R → sp_M → Prop} (h : w113 T p1 p2 = some res) (kk : Q (.inl (some (.int (Int32.ofInt res)))) (sw_M z n sw_Ft T K)) : sq_go G 113 0 [some (.ref (z + 221)), some (.int (Int32.ofInt p1)), some (.int (Int32.ofInt p2)), none, none] [] (sw_M z n sw_Ft T K) Q := by
  unfold w113 at h
  refine go_l qd113_0 rfl ?_
  refine go_l qd113_1 rfl ?_
  refine ga_k8 qd113_2 rfl ?_
  obtain ⟨r2, e1, h⟩ := sw_bind h
  refine ga_kv (a := 221) (as := [.int (Int32.ofInt p2), .int (Int32.ofInt 8)]) (rest := []) qd113_4 qk113_43 (sw_sl hn (by decide)) rfl rfl rfl (Nat.le_of_ble_eq_true rfl) (Nat.le_of_ble_eq_true rfl) rfl (A98 hn e1 (sw_bkv ?_))
  refine go_l (L' := [some (.ref (z + 221)), some (.int (Int32.ofInt p1)), some (.int (Int32.ofInt p2)), some (.int (Int32.ofInt r2)), none]) (st' := []) qd113_7 rfl ?_
  refine go_l qd113_8 rfl ?_
  refine go_l qd113_9 rfl ?_
  refine go_s qd113_10 rfl ?_
  obtain ⟨r4, e3, h⟩ := sw_bind h
  refine ga_kv (a := 221) (as := [.int (Int32.ofInt p2), .int (Int32.ofInt 3)]) (rest := []) qd113_11 qk113_43 (sw_sl hn (by decide)) rfl rfl rfl (Nat.le_of_ble_eq_true rfl) (Nat.le_of_ble_eq_true rfl) rfl (A98 hn e3 (sw_bkv ?_))
  refine go_s qd113_14 rfl ?_
  obtain ⟨_u, e5, h⟩ := sw_bind h
  by_cases hb6 : r4 = 1
  · replace h := sw_ifY hb6 h
    refine ga_ceqY (t := 27) qd113_15 e5 hb6 rfl ?_
    exact sq_weak (L := [none, some (.int (Int32.ofInt p1)), some (.int (Int32.ofInt p2)), some (.int (Int32.ofInt r2)), none]) ⟨rfl, rfl, rfl, trivial⟩ (B113_27 hn h kk)
  · replace h := sw_ifN hb6 h
    refine ga_ceqN (t := 27) qd113_15 e5 hb6 rfl ?_
    refine go_l qd113_18 rfl ?_
    refine go_l qd113_19 rfl ?_
    refine go_s qd113_20 rfl ?_
    obtain ⟨r16, e15, h⟩ := sw_bind h
    refine ga_kv (a := 221) (as := [.int (Int32.ofInt p2), .int (Int32.ofInt 1)]) (rest := []) qd113_21 qk113_43 (sw_sl hn (by decide)) rfl rfl rfl (Nat.le_of_ble_eq_true rfl) (Nat.le_of_ble_eq_true rfl) rfl (A98 hn e15 (sw_bkv ?_))
    obtain ⟨_u, e17, h⟩ := sw_bind h
    by_cases hb18 : 0 < r16
    · replace h := sw_ifY hb18 h
      refine ga_zleY (t := 31) qd113_24 e17 hb18 rfl ?_
      exact sq_weak (L := [none, some (.int (Int32.ofInt p1)), some (.int (Int32.ofInt p2)), some (.int (Int32.ofInt r2)), none]) ⟨rfl, rfl, rfl, trivial⟩ (B113_27 hn h kk)
    · replace h := sw_ifN hb18 h
      refine ga_zleN (t := 31) qd113_24 e17 hb18 rfl ?_
      refine go_s qd113_31 rfl ?_
      exact sq_weak (L := [none, some (.int (Int32.ofInt p1)), some (.int (Int32.ofInt p2)), some (.int (Int32.ofInt r2)), none]) ⟨rfl, rfl, rfl, trivial⟩ (B113_32 hn h kk)
theorem qc114 : sq_c 114 = 6 := by decide +kernel
theorem qk114_43 : sw_ck 114 43 98 0 2 6 3 = true := by decide +kernel
theorem qr114 : sq_ret 114 = some .boolean := by decide +kernel
theorem qk114_63 : sw_ck 114 63 101 0 2 6 3 = true := by decide +kernel
theorem qk114_57 : sw_ck 114 57 102 0 2 6 3 = true := by decide +kernel
-- 114: SewingPilesModel.isAhead(III)Z
def w114 (T : sw_T) (p1 : Int) (p2 : Int) (p3 : Int) : Option (Int) :=
  (sw_ld T 222 543 1).bind fun v2 =>
  (sw_r1 v2).bind fun _u =>
  if v2 = 0 then
    (w98 T p2 8).bind fun r6 =>
    (w98 T p3 8).bind fun r8 =>
    (sw_r2 r6 r8).bind fun _u =>
    if r8 < r6 then
      some (1)
    else
      some (0)
  else
  if v2 = 1 then
    (sw_ld T 222 543 4).bind fun v13 =>
    (sw_ld T 222 543 4).bind fun v15 =>
    (sw_dv ((p2 - p1) + v13) v15).bind fun _u =>
    (sw_ld T 222 543 4).bind fun v18 =>
    (sw_ld T 222 543 4).bind fun v20 =>
    (sw_dv ((p3 - p1) + v18) v20).bind fun _u =>
    (sw_r2 (((p2 - p1) + v13) % v15) (((p3 - p1) + v18) % v20)).bind fun _u =>
    if (((p2 - p1) + v13) % v15) < (((p3 - p1) + v18) % v20) then
      some (1)
    else
      some (0)
  else
    (w101 T p2 0).bind fun r25 =>
    (w102 T r25 0).bind fun r27 =>
    (w101 T p3 0).bind fun r29 =>
    (w102 T r29 0).bind fun r31 =>
    (sw_r2 r27 r31).bind fun _u =>
    if r31 < r27 then
      some (1)
    else
      some (0)
theorem A114 {G : sp_G} {z n : Nat} (hn : 228 ≤ n) {T : sw_T} {K : sw_K} {p1 : Int} {p2 : Int} {p3 : Int} {res : Int} {Q : sp_R → sp_M → Prop} (h : w114 T p1 p2 p3 = some res) (kk : Q (.inl (some (.int (Int32.ofInt res)))) (sw_M z n sw_Ft T K)) : sq_go G 114 0 [some (.ref (z + 221)), some (.int (Int32.ofInt p1)), some (.int (Int32.ofInt p2)), some (.int (Int32.ofInt p3))] [] (sw_M z n sw_Ft T K) Q := by
  unfold w114 at h
  refine go_l qd114_0 rfl ?_
  refine ga_gf (v := .ref (z + 222)) qd114_1 qc114 qf6_7 (sw_sl hn (by decide)) rfl rfl ?_
  refine go_s qd114_4 rfl ?_
  obtain ⟨v2, e1, h⟩ := sw_bind h
  refine ga_iald qd114_5 (sw_sl hn (by decide)) e1 ?_
  obtain ⟨_u, e3, h⟩ := sw_bind h
  by_cases hb4 : v2 = 0
  · replace h := sw_ifY hb4 h
    refine ga_sw (t := 32) qd114_6 rfl hb4 rfl ?_
    refine go_l qd114_32 rfl ?_
    refine go_l qd114_33 rfl ?_
    refine ga_k8 qd114_34 rfl ?_
    obtain ⟨r6, e5, h⟩ := sw_bind h
    refine ga_kv (a := 221) (as := [.int (Int32.ofInt p2), .int (Int32.ofInt 8)]) (rest := []) qd114_36 qk114_43 (sw_sl hn (by decide)) rfl rfl rfl (Nat.le_of_ble_eq_true rfl) (Nat.le_of_ble_eq_true rfl) rfl (A98 hn e5 (sw_bkv ?_))
    refine go_l qd114_39 rfl ?_
    refine go_l qd114_40 rfl ?_
    refine ga_k8 qd114_41 rfl ?_
    obtain ⟨r8, e7, h⟩ := sw_bind h
    refine ga_kv (a := 221) (as := [.int (Int32.ofInt p3), .int (Int32.ofInt 8)]) (rest := [.int (Int32.ofInt r6)]) qd114_43 qk114_43 (sw_sl hn (by decide)) rfl rfl rfl (Nat.le_of_ble_eq_true rfl) (Nat.le_of_ble_eq_true rfl) rfl (A98 hn e7 (sw_bkv ?_))
    obtain ⟨_u, e9, h⟩ := sw_bind h
    by_cases hb10 : r8 < r6
    · replace h := sw_ifY hb10 h
      refine ga_cleY (t := 53) qd114_46 e9 hb10 rfl ?_
      refine go_s qd114_49 rfl ?_
      refine ga_jp (t := 54) qd114_50 rfl ?_
      rw [← sw_sj h] at kk
      exact ga_rb (u := ()) qd114_54 qr114 (by decide) kk
    · replace h := sw_ifN hb10 h
      refine ga_cleN (t := 53) qd114_46 e9 hb10 rfl ?_
      refine go_s qd114_53 rfl ?_
      rw [← sw_sj h] at kk
      exact ga_rb (u := ()) qd114_54 qr114 (by decide) kk
  · replace h := sw_ifN hb4 h
    by_cases hb11 : v2 = 1
    · replace h := sw_ifY hb11 h
      refine ga_sw (t := 55) qd114_6 rfl hb11 rfl ?_
      refine go_l qd114_55 rfl ?_
      refine go_l qd114_56 rfl ?_
      refine ga_isub qd114_57 ?_
      refine go_l qd114_58 rfl ?_
      refine ga_gf (v := .ref (z + 222)) qd114_59 qc114 qf6_7 (sw_sl hn (by decide)) rfl rfl ?_
      refine go_s qd114_62 rfl ?_
      obtain ⟨v13, e12, h⟩ := sw_bind h
      refine ga_iald qd114_63 (sw_sl hn (by decide)) e12 ?_
      refine ga_iadd qd114_64 ?_
      refine go_l qd114_65 rfl ?_
      refine ga_gf (v := .ref (z + 222)) qd114_66 qc114 qf6_7 (sw_sl hn (by decide)) rfl rfl ?_
      refine go_s qd114_69 rfl ?_
      obtain ⟨v15, e14, h⟩ := sw_bind h
      refine ga_iald qd114_70 (sw_sl hn (by decide)) e14 ?_
      obtain ⟨_u, e16, h⟩ := sw_bind h
      refine ga_irem qd114_71 e16 ?_
      refine go_l qd114_72 rfl ?_
      refine go_l qd114_73 rfl ?_
      refine ga_isub qd114_74 ?_
      refine go_l qd114_75 rfl ?_
      refine ga_gf (v := .ref (z + 222)) qd114_76 qc114 qf6_7 (sw_sl hn (by decide)) rfl rfl ?_
      refine go_s qd114_79 rfl ?_
      obtain ⟨v18, e17, h⟩ := sw_bind h
      refine ga_iald qd114_80 (sw_sl hn (by decide)) e17 ?_
      refine ga_iadd qd114_81 ?_
      refine go_l qd114_82 rfl ?_
      refine ga_gf (v := .ref (z + 222)) qd114_83 qc114 qf6_7 (sw_sl hn (by decide)) rfl rfl ?_
      refine go_s qd114_86 rfl ?_
      obtain ⟨v20, e19, h⟩ := sw_bind h
      refine ga_iald qd114_87 (sw_sl hn (by decide)) e19 ?_
      obtain ⟨_u, e21, h⟩ := sw_bind h
      refine ga_irem qd114_88 e21 ?_
      obtain ⟨_u, e22, h⟩ := sw_bind h
      by_cases hb23 : (((p2 - p1) + v13) % v15) < (((p3 - p1) + v18) % v20)
      · replace h := sw_ifY hb23 h
        refine ga_cgeY (t := 96) qd114_89 e22 hb23 rfl ?_
        refine go_s qd114_92 rfl ?_
        refine ga_jp (t := 97) qd114_93 rfl ?_
        rw [← sw_sj h] at kk
        exact ga_rb (u := ()) qd114_97 qr114 (by decide) kk
      · replace h := sw_ifN hb23 h
        refine ga_cgeN (t := 96) qd114_89 e22 hb23 rfl ?_
        refine go_s qd114_96 rfl ?_
        rw [← sw_sj h] at kk
        exact ga_rb (u := ()) qd114_97 qr114 (by decide) kk
    · replace h := sw_ifN hb11 h
      refine ga_lsd (t := 98) qd114_6 e3 (by decide) (by intro p hp; simp only [List.mem_cons, List.not_mem_nil, or_false] at hp; rcases hp with rfl | rfl <;> (dsimp only; omega)) rfl ?_
      refine go_l qd114_98 rfl ?_
      refine go_l qd114_99 rfl ?_
      refine go_l qd114_100 rfl ?_
      refine go_s qd114_101 rfl ?_
      obtain ⟨r25, e24, h⟩ := sw_bind h
      refine ga_kv (a := 221) (as := [.int (Int32.ofInt p2), .int (Int32.ofInt 0)]) (rest := [.ref (z + 221)]) qd114_102 qk114_63 (sw_sl hn (by decide)) rfl rfl rfl (Nat.le_of_ble_eq_true rfl) (Nat.le_of_ble_eq_true rfl) rfl (A101 hn e24 (sw_bkv ?_))
      refine go_s qd114_105 rfl ?_
      obtain ⟨r27, e26, h⟩ := sw_bind h
      refine ga_kv (a := 221) (as := [.int (Int32.ofInt r25), .int (Int32.ofInt 0)]) (rest := []) qd114_106 qk114_57 (sw_sl hn (by decide)) rfl rfl rfl (Nat.le_of_ble_eq_true rfl) (Nat.le_of_ble_eq_true rfl) rfl (A102 hn e26 (sw_bkv ?_))
      refine go_l qd114_109 rfl ?_
      refine go_l qd114_110 rfl ?_
      refine go_l qd114_111 rfl ?_
      refine go_s qd114_112 rfl ?_
      obtain ⟨r29, e28, h⟩ := sw_bind h
      refine ga_kv (a := 221) (as := [.int (Int32.ofInt p3), .int (Int32.ofInt 0)]) (rest := [.ref (z + 221), .int (Int32.ofInt r27)]) qd114_113 qk114_63 (sw_sl hn (by decide)) rfl rfl rfl (Nat.le_of_ble_eq_true rfl) (Nat.le_of_ble_eq_true rfl) rfl (A101 hn e28 (sw_bkv ?_))
      refine go_s qd114_116 rfl ?_
      obtain ⟨r31, e30, h⟩ := sw_bind h
      refine ga_kv (a := 221) (as := [.int (Int32.ofInt r29), .int (Int32.ofInt 0)]) (rest := [.int (Int32.ofInt r27)]) qd114_117 qk114_57 (sw_sl hn (by decide)) rfl rfl rfl (Nat.le_of_ble_eq_true rfl) (Nat.le_of_ble_eq_true rfl) rfl (A102 hn e30 (sw_bkv ?_))
      obtain ⟨_u, e32, h⟩ := sw_bind h
      by_cases hb33 : r31 < r27
      · replace h := sw_ifY hb33 h
        refine ga_cleY (t := 127) qd114_120 e32 hb33 rfl ?_
        refine go_s qd114_123 rfl ?_
        refine ga_jp (t := 128) qd114_124 rfl ?_
        rw [← sw_sj h] at kk
        exact ga_rb (u := ()) qd114_128 qr114 (by decide) kk
      · replace h := sw_ifN hb33 h
        refine ga_cleN (t := 127) qd114_120 e32 hb33 rfl ?_
        refine go_s qd114_127 rfl ?_
        rw [← sw_sj h] at kk
        exact ga_rb (u := ()) qd114_128 qr114 (by decide) kk
theorem qc115 : sq_c 115 = 6 := by decide +kernel
theorem qk115_69 : sw_ck 115 69 113 0 2 6 5 = true := by decide +kernel
theorem qk115_73 : sw_ck 115 73 114 0 3 6 4 = true := by decide +kernel
theorem qr115 : sq_ret 115 = some .int := by decide +kernel
-- 115: SewingPilesModel.chosen(I)I
def w115_4 (T : sw_T) (l1 : Int) : Nat → Int → Int → Option (Int)
  | 0, _, _ => none
  | m + 1, l2, l3 =>
    (sw_ld T 222 543 4).bind fun v2 =>
    (sw_r2 l3 v2).bind fun _u =>
    if l3 < v2 then
      (w113 T l1 l3).bind fun r6 =>
      (sw_r1 r6).bind fun _u =>
      if r6 = 0 then
        w115_4 T l1 m l2 (l3 + 1)
      else
        (sw_r2 l2 (-1)).bind fun _u =>
        if l2 = (-1) then
          w115_4 T l1 m l3 (l3 + 1)
        else
          (w114 T l1 l3 l2).bind fun r12 =>
          (sw_r1 r12).bind fun _u =>
          if r12 = 0 then
            w115_4 T l1 m l2 (l3 + 1)
          else
            w115_4 T l1 m l3 (l3 + 1)
    else
      some (l2)
theorem B115_4 {G : sp_G} {z n : Nat} (hn : 228 ≤ n) {T : sw_T} {l1 : Int} {K : sw_K} {res : Int} {Q : sp_R → sp_M → Prop} (kk : sq_go G 115 62 [none, none, some (.int (Int32.ofInt res)), none, none] [] (sw_M z n sw_Ft T K) Q) : ∀ (m : Nat) (l2 : Int) (l3 : Int), w115_4 T l1 m l2 l3 = some res → sq_go G 115 4 [some (.ref (z + 221)), some (.int (Int32.ofInt l1)), some (.int (Int32.ofInt l2)), some (.int (Int32.ofInt l3)), none] [] (sw_M z n sw_Ft T K) Q := by
  intro m
  induction m with
  | zero => intro l2 l3 h; cases h
  | succ m ih =>
    intro l2 l3 h
    rw [w115_4] at h
    refine go_l qd115_4 rfl ?_
    refine go_l qd115_5 rfl ?_
    refine ga_gf (v := .ref (z + 222)) qd115_6 qc115 qf6_7 (sw_sl hn (by decide)) rfl rfl ?_
    refine go_s qd115_9 rfl ?_
    obtain ⟨v2, e1, h⟩ := sw_bind h
    refine ga_iald qd115_10 (sw_sl hn (by decide)) e1 ?_
    obtain ⟨_u, e3, h⟩ := sw_bind h
    by_cases hb4 : l3 < v2
    · replace h := sw_ifY hb4 h
      refine ga_cgeY (t := 62) qd115_11 e3 hb4 rfl ?_
      refine go_l qd115_14 rfl ?_
      refine go_l qd115_15 rfl ?_
      refine go_l qd115_16 rfl ?_
      obtain ⟨r6, e5, h⟩ := sw_bind h
      refine ga_kv (a := 221) (as := [.int (Int32.ofInt l1), .int (Int32.ofInt l3)]) (rest := []) qd115_17 qk115_69 (sw_sl hn (by decide)) rfl rfl rfl (Nat.le_of_ble_eq_true rfl) (Nat.le_of_ble_eq_true rfl) rfl (A113 hn e5 (sw_bkv ?_))
      obtain ⟨_u, e7, h⟩ := sw_bind h
      by_cases hb8 : r6 = 0
      · replace h := sw_ifY hb8 h
        refine ga_zeqY (t := 42) qd115_20 e7 hb8 rfl ?_
        refine go_s qd115_42 rfl ?_
        refine go_l (L' := [some (.ref (z + 221)), some (.int (Int32.ofInt l1)), some (.int (Int32.ofInt l2)), some (.int (Int32.ofInt l3)), some (.int (Int32.ofInt 0))]) (st' := []) qd115_43 rfl ?_
        refine go_l qd115_45 rfl ?_
        refine ga_zeqY (t := 54) (u := ()) qd115_47 (by decide) (by decide) rfl ?_
        refine go_l qd115_54 rfl ?_
        refine go_l (L' := [some (.ref (z + 221)), some (.int (Int32.ofInt l1)), some (.int (Int32.ofInt l2)), some (.int (Int32.ofInt l3)), some (.int (Int32.ofInt 0))]) (st' := []) qd115_55 rfl ?_
        refine ga_ii (L' := [some (.ref (z + 221)), some (.int (Int32.ofInt l1)), some (.int (Int32.ofInt l2)), some (.int (Int32.ofInt (l3 + 1))), some (.int (Int32.ofInt 0))]) qd115_56 rfl rfl ?_
        refine ga_jp (t := 4) qd115_59 rfl ?_
        exact sq_weak (L := [some (.ref (z + 221)), some (.int (Int32.ofInt l1)), some (.int (Int32.ofInt l2)), some (.int (Int32.ofInt (l3 + 1))), none]) ⟨rfl, rfl, rfl, rfl, trivial⟩ (ih _ _ h)
      · replace h := sw_ifN hb8 h
        refine ga_zeqN (t := 42) qd115_20 e7 hb8 rfl ?_
        refine go_l qd115_23 rfl ?_
        refine go_s qd115_24 rfl ?_
        obtain ⟨_u, e9, h⟩ := sw_bind h
        by_cases hb10 : l2 = (-1)
        · replace h := sw_ifY hb10 h
          refine ga_ceqY (t := 38) qd115_25 e9 hb10 rfl ?_
          refine go_s qd115_38 rfl ?_
          refine ga_jp (t := 43) qd115_39 rfl ?_
          refine go_l (L' := [some (.ref (z + 221)), some (.int (Int32.ofInt l1)), some (.int (Int32.ofInt l2)), some (.int (Int32.ofInt l3)), some (.int (Int32.ofInt 1))]) (st' := []) qd115_43 rfl ?_
          refine go_l qd115_45 rfl ?_
          refine ga_zeqN (t := 54) (u := ()) qd115_47 (by decide) (by decide) rfl ?_
          refine go_l qd115_50 rfl ?_
          refine ga_jp (t := 55) qd115_51 rfl ?_
          refine go_l (L' := [some (.ref (z + 221)), some (.int (Int32.ofInt l1)), some (.int (Int32.ofInt l3)), some (.int (Int32.ofInt l3)), some (.int (Int32.ofInt 1))]) (st' := []) qd115_55 rfl ?_
          refine ga_ii (L' := [some (.ref (z + 221)), some (.int (Int32.ofInt l1)), some (.int (Int32.ofInt l3)), some (.int (Int32.ofInt (l3 + 1))), some (.int (Int32.ofInt 1))]) qd115_56 rfl rfl ?_
          refine ga_jp (t := 4) qd115_59 rfl ?_
          exact sq_weak (L := [some (.ref (z + 221)), some (.int (Int32.ofInt l1)), some (.int (Int32.ofInt l3)), some (.int (Int32.ofInt (l3 + 1))), none]) ⟨rfl, rfl, rfl, rfl, trivial⟩ (ih _ _ h)
        · replace h := sw_ifN hb10 h
          refine ga_ceqN (t := 38) qd115_25 e9 hb10 rfl ?_
          refine go_l qd115_28 rfl ?_
          refine go_l qd115_29 rfl ?_
          refine go_l qd115_30 rfl ?_
          refine go_l qd115_31 rfl ?_
          obtain ⟨r12, e11, h⟩ := sw_bind h
          refine ga_kv (a := 221) (as := [.int (Int32.ofInt l1), .int (Int32.ofInt l3), .int (Int32.ofInt l2)]) (rest := []) qd115_32 qk115_73 (sw_sl hn (by decide)) rfl rfl rfl (Nat.le_of_ble_eq_true rfl) (Nat.le_of_ble_eq_true rfl) rfl (A114 hn e11 (sw_bkv ?_))
          obtain ⟨_u, e13, h⟩ := sw_bind h
          by_cases hb14 : r12 = 0
          · replace h := sw_ifY hb14 h
            refine ga_zeqY (t := 42) qd115_35 e13 hb14 rfl ?_
            refine go_s qd115_42 rfl ?_
            refine go_l (L' := [some (.ref (z + 221)), some (.int (Int32.ofInt l1)), some (.int (Int32.ofInt l2)), some (.int (Int32.ofInt l3)), some (.int (Int32.ofInt 0))]) (st' := []) qd115_43 rfl ?_
            refine go_l qd115_45 rfl ?_
            refine ga_zeqY (t := 54) (u := ()) qd115_47 (by decide) (by decide) rfl ?_
            refine go_l qd115_54 rfl ?_
            refine go_l (L' := [some (.ref (z + 221)), some (.int (Int32.ofInt l1)), some (.int (Int32.ofInt l2)), some (.int (Int32.ofInt l3)), some (.int (Int32.ofInt 0))]) (st' := []) qd115_55 rfl ?_
            refine ga_ii (L' := [some (.ref (z + 221)), some (.int (Int32.ofInt l1)), some (.int (Int32.ofInt l2)), some (.int (Int32.ofInt (l3 + 1))), some (.int (Int32.ofInt 0))]) qd115_56 rfl rfl ?_
            refine ga_jp (t := 4) qd115_59 rfl ?_
            exact sq_weak (L := [some (.ref (z + 221)), some (.int (Int32.ofInt l1)), some (.int (Int32.ofInt l2)), some (.int (Int32.ofInt (l3 + 1))), none]) ⟨rfl, rfl, rfl, rfl, trivial⟩ (ih _ _ h)
          · replace h := sw_ifN hb14 h
            refine ga_zeqN (t := 42) qd115_35 e13 hb14 rfl ?_
            refine go_s qd115_38 rfl ?_
            refine ga_jp (t := 43) qd115_39 rfl ?_
            refine go_l (L' := [some (.ref (z + 221)), some (.int (Int32.ofInt l1)), some (.int (Int32.ofInt l2)), some (.int (Int32.ofInt l3)), some (.int (Int32.ofInt 1))]) (st' := []) qd115_43 rfl ?_
            refine go_l qd115_45 rfl ?_
            refine ga_zeqN (t := 54) (u := ()) qd115_47 (by decide) (by decide) rfl ?_
            refine go_l qd115_50 rfl ?_
            refine ga_jp (t := 55) qd115_51 rfl ?_
            refine go_l (L' := [some (.ref (z + 221)), some (.int (Int32.ofInt l1)), some (.int (Int32.ofInt l3)), some (.int (Int32.ofInt l3)), some (.int (Int32.ofInt 1))]) (st' := []) qd115_55 rfl ?_
            refine ga_ii (L' := [some (.ref (z + 221)), some (.int (Int32.ofInt l1)), some (.int (Int32.ofInt l3)), some (.int (Int32.ofInt (l3 + 1))), some (.int (Int32.ofInt 1))]) qd115_56 rfl rfl ?_
            refine ga_jp (t := 4) qd115_59 rfl ?_
            exact sq_weak (L := [some (.ref (z + 221)), some (.int (Int32.ofInt l1)), some (.int (Int32.ofInt l3)), some (.int (Int32.ofInt (l3 + 1))), none]) ⟨rfl, rfl, rfl, rfl, trivial⟩ (ih _ _ h)
    · replace h := sw_ifN hb4 h
      refine ga_cgeN (t := 62) qd115_11 e3 hb4 rfl ?_
      rw [← sw_sj h] at kk
      exact sq_weak (L := [none, none, some (.int (Int32.ofInt l2)), none, none]) ⟨rfl, trivial⟩ kk
def w115 (T : sw_T) (p1 : Int) : Option (Int) :=
  (w115_4 T p1 sw_N (-1) 0).bind fun x15 =>
  some (x15)
theorem A115 {G : sp_G} {z n : Nat} (hn : 228 ≤ n) {T : sw_T} {K : sw_K} {p1 : Int} {res : Int} {Q : sp_R → sp_M → Prop} (h : w115 T p1 = some res) (kk : Q (.inl (some (.int (Int32.ofInt res)))) (sw_M z n sw_Ft T K)) : sq_go G 115 0 [some (.ref (z + 221)), some (.int (Int32.ofInt p1)), none, none, none] [] (sw_M z n sw_Ft T K) Q := by
  unfold w115 at h
  refine go_s qd115_0 rfl ?_
  refine go_l (L' := [some (.ref (z + 221)), some (.int (Int32.ofInt p1)), some (.int (Int32.ofInt (-1))), none, none]) (st' := []) qd115_1 rfl ?_
  refine go_s qd115_2 rfl ?_
  refine go_l (L' := [some (.ref (z + 221)), some (.int (Int32.ofInt p1)), some (.int (Int32.ofInt (-1))), some (.int (Int32.ofInt 0)), none]) (st' := []) qd115_3 rfl ?_
  obtain ⟨x15, e16, h⟩ := sw_bind h
  refine sq_weak (L := [some (.ref (z + 221)), some (.int (Int32.ofInt p1)), some (.int (Int32.ofInt (-1))), some (.int (Int32.ofInt 0)), none]) ⟨rfl, rfl, rfl, rfl, trivial⟩ (B115_4 hn (res := x15) ?_ _ _ _ e16)
  refine go_l qd115_62 rfl ?_
  rw [← sw_sj h] at kk
  exact ga_ri qd115_63 qr115 kk
theorem qk116_43 : sw_ck 116 43 98 0 2 6 3 = true := by decide +kernel
theorem qk116_57 : sw_ck 116 57 102 0 2 6 3 = true := by decide +kernel
theorem qk116_47 : sw_ck 116 47 103 0 3 6 4 = true := by decide +kernel
theorem qr116 : sq_ret 116 = none := by decide +kernel
theorem qk116_32 : sw_ck 116 32 99 0 3 6 4 = true := by decide +kernel
theorem qk116_50 : sw_ck 116 50 100 0 2 6 3 = true := by decide +kernel
-- 116: SewingPilesModel.sews(I)V
def w116_35 (T : sw_T) (l1 : Int) (l2 : Int) (l3 : Int) (s1 : Int) (s2 : Int) (s3 : Int) : Option (sw_T) :=
  (w103 T s1 s2 s3).bind fun r10 =>
  (sw_r1 l3).bind fun _u =>
  if 0 < l3 then
    some (r10)
  else
    (w103 r10 l2 1 2).bind fun r14 =>
    (w99 r14 l1 1 0).bind fun r16 =>
    (w100 r16 l1 4).bind fun r18 =>
    some (r18)
theorem B116_35 {G : sp_G} {z n : Nat} (hn : 228 ≤ n) {T : sw_T} {K : sw_K} {l1 : Int} {l2 : Int} {l3 : Int} {s1 : Int} {s2 : Int} {s3 : Int} {res : sw_T} {Q : sp_R → sp_M → Prop} (h : w116_35 T l1 l2 l3 s1 s2 s3 = some res) (kk : Q (.inl none) (sw_M z n sw_Ft res K)) : sq_go G 116 35 [some (.ref (z + 221)), some (.int (Int32.ofInt l1)), some (.int (Int32.ofInt l2)), some (.int (Int32.ofInt l3))] [.int (Int32.ofInt s3), .int (Int32.ofInt s2), .int (Int32.ofInt s1), .ref (z + 221)] (sw_M z n sw_Ft T K) Q := by
  unfold w116_35 at h
  obtain ⟨r10, e9, h⟩ := sw_bind h
  refine ga_kv (a := 221) (as := [.int (Int32.ofInt s1), .int (Int32.ofInt s2), .int (Int32.ofInt s3)]) (rest := []) qd116_35 qk116_47 (sw_sl hn (by decide)) rfl rfl rfl (Nat.le_of_ble_eq_true rfl) (Nat.le_of_ble_eq_true rfl) rfl (A103 hn e9 (sw_bk0 ?_))
  refine go_l qd116_38 rfl ?_
  obtain ⟨_u, e11, h⟩ := sw_bind h
  by_cases hb12 : 0 < l3
  · replace h := sw_ifY hb12 h
    refine ga_zgtY (t := 62) qd116_39 e11 hb12 rfl ?_
    rw [← sw_sj h] at kk
    exact ga_rv qd116_62 qr116 kk
  · replace h := sw_ifN hb12 h
    refine ga_zgtN (t := 62) qd116_39 e11 hb12 rfl ?_
    refine go_l qd116_42 rfl ?_
    refine go_l qd116_43 rfl ?_
    refine go_s qd116_44 rfl ?_
    refine go_s qd116_45 rfl ?_
    obtain ⟨r14, e13, h⟩ := sw_bind h
    refine ga_kv (a := 221) (as := [.int (Int32.ofInt l2), .int (Int32.ofInt 1), .int (Int32.ofInt 2)]) (rest := []) qd116_46 qk116_47 (sw_sl hn (by decide)) rfl rfl rfl (Nat.le_of_ble_eq_true rfl) (Nat.le_of_ble_eq_true rfl) rfl (A103 hn e13 (sw_bk0 ?_))
    refine go_l qd116_49 rfl ?_
    refine go_l qd116_50 rfl ?_
    refine go_s qd116_51 rfl ?_
    refine go_s qd116_52 rfl ?_
    obtain ⟨r16, e15, h⟩ := sw_bind h
    refine ga_kv (a := 221) (as := [.int (Int32.ofInt l1), .int (Int32.ofInt 1), .int (Int32.ofInt 0)]) (rest := []) qd116_53 qk116_32 (sw_sl hn (by decide)) rfl rfl rfl (Nat.le_of_ble_eq_true rfl) (Nat.le_of_ble_eq_true rfl) rfl (A99 hn e15 (sw_bk0 ?_))
    refine go_l qd116_56 rfl ?_
    refine go_l qd116_57 rfl ?_
    refine go_s qd116_58 rfl ?_
    obtain ⟨r18, e17, h⟩ := sw_bind h
    refine ga_kv (a := 221) (as := [.int (Int32.ofInt l1), .int (Int32.ofInt 4)]) (rest := []) qd116_59 qk116_50 (sw_sl hn (by decide)) rfl rfl rfl (Nat.le_of_ble_eq_true rfl) (Nat.le_of_ble_eq_true rfl) rfl (A100 hn e17 (sw_bk0 ?_))
    rw [← sw_sj h] at kk
    exact ga_rv qd116_62 qr116 kk
def w116 (T : sw_T) (p1 : Int) : Option (sw_T) :=
  (w98 T p1 1).bind fun r2 =>
  (w102 T (r2 - 1) 0).bind fun r4 =>
  (w98 T p1 0).bind fun r6 =>
  (sw_r1 (r4 - r6)).bind fun _u =>
  if (r4 - r6) < 0 then
    w116_35 T p1 (r2 - 1) (r4 - r6) (r2 - 1) 0 0
  else
    w116_35 T p1 (r2 - 1) (r4 - r6) (r2 - 1) 0 (r4 - r6)
theorem A116 {G : sp_G} {z n : Nat} (hn : 228 ≤ n) {T : sw_T} {K : sw_K} {p1 : Int} {res : sw_T} {Q : sp_R → sp_M → Prop} (h : w116 T p1 = some res) (kk : Q (.inl none) (sw_M z n sw_Ft res K)) : sq_go G 116 0 [some (.ref (z + 221)), some (.int (Int32.ofInt p1)), none, none] [] (sw_M z n sw_Ft T K) Q := by
  unfold w116 at h
  refine go_l qd116_0 rfl ?_
  refine go_l qd116_1 rfl ?_
  refine go_s qd116_2 rfl ?_
  obtain ⟨r2, e1, h⟩ := sw_bind h
  refine ga_kv (a := 221) (as := [.int (Int32.ofInt p1), .int (Int32.ofInt 1)]) (rest := []) qd116_3 qk116_43 (sw_sl hn (by decide)) rfl rfl rfl (Nat.le_of_ble_eq_true rfl) (Nat.le_of_ble_eq_true rfl) rfl (A98 hn e1 (sw_bkv ?_))
  refine go_s qd116_6 rfl ?_
  refine ga_isub qd116_7 ?_
  refine go_l (L' := [some (.ref (z + 221)), some (.int (Int32.ofInt p1)), some (.int (Int32.ofInt (r2 - 1))), none]) (st' := []) qd116_8 rfl ?_
  refine go_l qd116_9 rfl ?_
  refine go_l qd116_10 rfl ?_
  refine go_s qd116_11 rfl ?_
  obtain ⟨r4, e3, h⟩ := sw_bind h
  refine ga_kv (a := 221) (as := [.int (Int32.ofInt (r2 - 1)), .int (Int32.ofInt 0)]) (rest := []) qd116_12 qk116_57 (sw_sl hn (by decide)) rfl rfl rfl (Nat.le_of_ble_eq_true rfl) (Nat.le_of_ble_eq_true rfl) rfl (A102 hn e3 (sw_bkv ?_))
  refine go_l qd116_15 rfl ?_
  refine go_l qd116_16 rfl ?_
  refine go_s qd116_17 rfl ?_
  obtain ⟨r6, e5, h⟩ := sw_bind h
  refine ga_kv (a := 221) (as := [.int (Int32.ofInt p1), .int (Int32.ofInt 0)]) (rest := [.int (Int32.ofInt r4)]) qd116_18 qk116_43 (sw_sl hn (by decide)) rfl rfl rfl (Nat.le_of_ble_eq_true rfl) (Nat.le_of_ble_eq_true rfl) rfl (A98 hn e5 (sw_bkv ?_))
  refine ga_isub qd116_21 ?_
  refine go_l (L' := [some (.ref (z + 221)), some (.int (Int32.ofInt p1)), some (.int (Int32.ofInt (r2 - 1))), some (.int (Int32.ofInt (r4 - r6)))]) (st' := []) qd116_22 rfl ?_
  refine go_l qd116_23 rfl ?_
  refine go_l qd116_24 rfl ?_
  refine go_s qd116_25 rfl ?_
  refine go_l qd116_26 rfl ?_
  obtain ⟨_u, e7, h⟩ := sw_bind h
  by_cases hb8 : (r4 - r6) < 0
  · replace h := sw_ifY hb8 h
    refine ga_zgeY (t := 34) qd116_27 e7 hb8 rfl ?_
    refine go_s qd116_30 rfl ?_
    refine ga_jp (t := 35) qd116_31 rfl ?_
    exact sq_weak (L := [some (.ref (z + 221)), some (.int (Int32.ofInt p1)), some (.int (Int32.ofInt (r2 - 1))), some (.int (Int32.ofInt (r4 - r6)))]) ⟨rfl, rfl, rfl, rfl, trivial⟩ (B116_35 hn h kk)
  · replace h := sw_ifN hb8 h
    refine ga_zgeN (t := 34) qd116_27 e7 hb8 rfl ?_
    refine go_l qd116_34 rfl ?_
    exact sq_weak (L := [some (.ref (z + 221)), some (.int (Int32.ofInt p1)), some (.int (Int32.ofInt (r2 - 1))), some (.int (Int32.ofInt (r4 - r6)))]) ⟨rfl, rfl, rfl, rfl, trivial⟩ (B116_35 hn h kk)
theorem qk117_50 : sw_ck 117 50 100 0 2 6 3 = true := by decide +kernel
theorem qk117_43 : sw_ck 117 43 98 0 2 6 3 = true := by decide +kernel
theorem qc117 : sq_c 117 = 6 := by decide +kernel
theorem qr117 : sq_ret 117 = none := by decide +kernel
theorem qk117_32 : sw_ck 117 32 99 0 3 6 4 = true := by decide +kernel
-- 117: SewingPilesModel.misses(I)V
def w117 (T : sw_T) (p1 : Int) : Option (sw_T) :=
  (w100 T p1 2).bind fun r2 =>
  (w100 r2 p1 7).bind fun r4 =>
  (w98 r4 p1 2).bind fun r6 =>
  (sw_ld r4 222 543 2).bind fun v8 =>
  (sw_r2 r6 v8).bind fun _u =>
  if r6 < v8 then
    some (r4)
  else
    (w99 r4 p1 3 1).bind fun r12 =>
    (w99 r12 p1 2 0).bind fun r14 =>
    some (r14)
theorem A117 {G : sp_G} {z n : Nat} (hn : 228 ≤ n) {T : sw_T} {K : sw_K} {p1 : Int} {res : sw_T} {Q : sp_R → sp_M → Prop} (h : w117 T p1 = some res) (kk : Q (.inl none) (sw_M z n sw_Ft res K)) : sq_go G 117 0 [some (.ref (z + 221)), some (.int (Int32.ofInt p1))] [] (sw_M z n sw_Ft T K) Q := by
  unfold w117 at h
  refine go_l qd117_0 rfl ?_
  refine go_l qd117_1 rfl ?_
  refine go_s qd117_2 rfl ?_
  obtain ⟨r2, e1, h⟩ := sw_bind h
  refine ga_kv (a := 221) (as := [.int (Int32.ofInt p1), .int (Int32.ofInt 2)]) (rest := []) qd117_3 qk117_50 (sw_sl hn (by decide)) rfl rfl rfl (Nat.le_of_ble_eq_true rfl) (Nat.le_of_ble_eq_true rfl) rfl (A100 hn e1 (sw_bk0 ?_))
  refine go_l qd117_6 rfl ?_
  refine go_l qd117_7 rfl ?_
  refine ga_k8 qd117_8 rfl ?_
  obtain ⟨r4, e3, h⟩ := sw_bind h
  refine ga_kv (a := 221) (as := [.int (Int32.ofInt p1), .int (Int32.ofInt 7)]) (rest := []) qd117_10 qk117_50 (sw_sl hn (by decide)) rfl rfl rfl (Nat.le_of_ble_eq_true rfl) (Nat.le_of_ble_eq_true rfl) rfl (A100 hn e3 (sw_bk0 ?_))
  refine go_l qd117_13 rfl ?_
  refine go_l qd117_14 rfl ?_
  refine go_s qd117_15 rfl ?_
  obtain ⟨r6, e5, h⟩ := sw_bind h
  refine ga_kv (a := 221) (as := [.int (Int32.ofInt p1), .int (Int32.ofInt 2)]) (rest := []) qd117_16 qk117_43 (sw_sl hn (by decide)) rfl rfl rfl (Nat.le_of_ble_eq_true rfl) (Nat.le_of_ble_eq_true rfl) rfl (A98 hn e5 (sw_bkv ?_))
  refine go_l qd117_19 rfl ?_
  refine ga_gf (v := .ref (z + 222)) qd117_20 qc117 qf6_7 (sw_sl hn (by decide)) rfl rfl ?_
  refine go_s qd117_23 rfl ?_
  obtain ⟨v8, e7, h⟩ := sw_bind h
  refine ga_iald qd117_24 (sw_sl hn (by decide)) e7 ?_
  obtain ⟨_u, e9, h⟩ := sw_bind h
  by_cases hb10 : r6 < v8
  · replace h := sw_ifY hb10 h
    refine ga_cltY (t := 42) qd117_25 e9 hb10 rfl ?_
    rw [← sw_sj h] at kk
    exact ga_rv qd117_42 qr117 kk
  · replace h := sw_ifN hb10 h
    refine ga_cltN (t := 42) qd117_25 e9 hb10 rfl ?_
    refine go_l qd117_28 rfl ?_
    refine go_l qd117_29 rfl ?_
    refine go_s qd117_30 rfl ?_
    refine go_s qd117_31 rfl ?_
    obtain ⟨r12, e11, h⟩ := sw_bind h
    refine ga_kv (a := 221) (as := [.int (Int32.ofInt p1), .int (Int32.ofInt 3), .int (Int32.ofInt 1)]) (rest := []) qd117_32 qk117_32 (sw_sl hn (by decide)) rfl rfl rfl (Nat.le_of_ble_eq_true rfl) (Nat.le_of_ble_eq_true rfl) rfl (A99 hn e11 (sw_bk0 ?_))
    refine go_l qd117_35 rfl ?_
    refine go_l qd117_36 rfl ?_
    refine go_s qd117_37 rfl ?_
    refine go_s qd117_38 rfl ?_
    obtain ⟨r14, e13, h⟩ := sw_bind h
    refine ga_kv (a := 221) (as := [.int (Int32.ofInt p1), .int (Int32.ofInt 2), .int (Int32.ofInt 0)]) (rest := []) qd117_39 qk117_32 (sw_sl hn (by decide)) rfl rfl rfl (Nat.le_of_ble_eq_true rfl) (Nat.le_of_ble_eq_true rfl) rfl (A99 hn e13 (sw_bk0 ?_))
    rw [← sw_sj h] at kk
    exact ga_rv qd117_42 qr117 kk
theorem qf6_76 : (sp_fd sp_flT 6 76).or (sp_fd sp_fnT 6 76) = some (6, 9) := by decide +kernel
theorem qc118 : sq_c 118 = 6 := by decide +kernel
theorem qk118_80 : sw_ck 118 80 115 0 1 6 5 = true := by decide +kernel
theorem qk118_43 : sw_ck 118 43 98 0 2 6 3 = true := by decide +kernel
theorem qk118_50 : sw_ck 118 50 100 0 2 6 3 = true := by decide +kernel
theorem qr118 : sq_ret 118 = none := by decide +kernel
theorem qk118_84 : sw_ck 118 84 116 0 1 6 4 = true := by decide +kernel
theorem qk118_88 : sw_ck 118 88 111 0 1 6 2 = true := by decide +kernel
theorem qk118_94 : sw_ck 118 94 117 0 1 6 2 = true := by decide +kernel
theorem qk118_91 : sw_ck 118 91 112 0 2 6 5 = true := by decide +kernel
-- 118: SewingPilesModel.acts(I)V
def w118_16 (T : sw_T) (l1 : Int) (s0 : Int) : Option (sw_T) :=
  (w98 T l1 3).bind fun r6 =>
  (sw_r2 r6 1).bind fun _u =>
  if r6 = 1 then
    (w100 T l1 6).bind fun r10 =>
    some (r10)
  else
    (w98 T l1 1).bind fun r12 =>
    (sw_r1 r12).bind fun _u =>
    if 0 < r12 then
      (w116 T l1).bind fun r16 =>
      some (r16)
    else
      (w98 T l1 8).bind fun r18 =>
      (sw_r1 r18).bind fun _u =>
      if 0 < r18 then
        (w111 T l1).bind fun r22 =>
        some (r22)
      else
        (sw_r2 s0 (-1)).bind fun _u =>
        if s0 = (-1) then
          (w117 T l1).bind fun r26 =>
          some (r26)
        else
          (w112 T l1 s0).bind fun r28 =>
          some (r28)
theorem B118_16 {G : sp_G} {z n : Nat} (hn : 228 ≤ n) {T : sw_T} {K : sw_K} {l1 : Int} {s0 : Int} {res : sw_T} {Q : sp_R → sp_M → Prop} (h : w118_16 T l1 s0 = some res) (kk : Q (.inl none) (sw_M z n sw_Ft res K)) : sq_go G 118 16 [some (.ref (z + 221)), some (.int (Int32.ofInt l1)), none] [.int (Int32.ofInt s0)] (sw_M z n sw_Ft T K) Q := by
  unfold w118_16 at h
  refine go_l (L' := [some (.ref (z + 221)), some (.int (Int32.ofInt l1)), some (.int (Int32.ofInt s0))]) (st' := []) qd118_16 rfl ?_
  refine go_l qd118_17 rfl ?_
  refine go_l qd118_18 rfl ?_
  refine go_s qd118_19 rfl ?_
  obtain ⟨r6, e5, h⟩ := sw_bind h
  refine ga_kv (a := 221) (as := [.int (Int32.ofInt l1), .int (Int32.ofInt 3)]) (rest := []) qd118_20 qk118_43 (sw_sl hn (by decide)) rfl rfl rfl (Nat.le_of_ble_eq_true rfl) (Nat.le_of_ble_eq_true rfl) rfl (A98 hn e5 (sw_bkv ?_))
  refine go_s qd118_23 rfl ?_
  obtain ⟨_u, e7, h⟩ := sw_bind h
  by_cases hb8 : r6 = 1
  · replace h := sw_ifY hb8 h
    refine ga_cneY (t := 37) qd118_24 e7 hb8 rfl ?_
    refine go_l qd118_27 rfl ?_
    refine go_l qd118_28 rfl ?_
    refine ga_k8 qd118_29 rfl ?_
    obtain ⟨r10, e9, h⟩ := sw_bind h
    refine ga_kv (a := 221) (as := [.int (Int32.ofInt l1), .int (Int32.ofInt 6)]) (rest := []) qd118_31 qk118_50 (sw_sl hn (by decide)) rfl rfl rfl (Nat.le_of_ble_eq_true rfl) (Nat.le_of_ble_eq_true rfl) rfl (A100 hn e9 (sw_bk0 ?_))
    refine ga_jp (t := 91) qd118_34 rfl ?_
    rw [← sw_sj h] at kk
    exact ga_rv qd118_91 qr118 kk
  · replace h := sw_ifN hb8 h
    refine ga_cneN (t := 37) qd118_24 e7 hb8 rfl ?_
    refine go_l qd118_37 rfl ?_
    refine go_l qd118_38 rfl ?_
    refine go_s qd118_39 rfl ?_
    obtain ⟨r12, e11, h⟩ := sw_bind h
    refine ga_kv (a := 221) (as := [.int (Int32.ofInt l1), .int (Int32.ofInt 1)]) (rest := []) qd118_40 qk118_43 (sw_sl hn (by decide)) rfl rfl rfl (Nat.le_of_ble_eq_true rfl) (Nat.le_of_ble_eq_true rfl) rfl (A98 hn e11 (sw_bkv ?_))
    obtain ⟨_u, e13, h⟩ := sw_bind h
    by_cases hb14 : 0 < r12
    · replace h := sw_ifY hb14 h
      refine ga_zleY (t := 54) qd118_43 e13 hb14 rfl ?_
      refine go_l qd118_46 rfl ?_
      refine go_l qd118_47 rfl ?_
      obtain ⟨r16, e15, h⟩ := sw_bind h
      refine ga_kv (a := 221) (as := [.int (Int32.ofInt l1)]) (rest := []) qd118_48 qk118_84 (sw_sl hn (by decide)) rfl rfl rfl (Nat.le_of_ble_eq_true rfl) (Nat.le_of_ble_eq_true rfl) rfl (A116 hn e15 (sw_bk0 ?_))
      refine ga_jp (t := 91) qd118_51 rfl ?_
      rw [← sw_sj h] at kk
      exact ga_rv qd118_91 qr118 kk
    · replace h := sw_ifN hb14 h
      refine ga_zleN (t := 54) qd118_43 e13 hb14 rfl ?_
      refine go_l qd118_54 rfl ?_
      refine go_l qd118_55 rfl ?_
      refine ga_k8 qd118_56 rfl ?_
      obtain ⟨r18, e17, h⟩ := sw_bind h
      refine ga_kv (a := 221) (as := [.int (Int32.ofInt l1), .int (Int32.ofInt 8)]) (rest := []) qd118_58 qk118_43 (sw_sl hn (by decide)) rfl rfl rfl (Nat.le_of_ble_eq_true rfl) (Nat.le_of_ble_eq_true rfl) rfl (A98 hn e17 (sw_bkv ?_))
      obtain ⟨_u, e19, h⟩ := sw_bind h
      by_cases hb20 : 0 < r18
      · replace h := sw_ifY hb20 h
        refine ga_zleY (t := 72) qd118_61 e19 hb20 rfl ?_
        refine go_l qd118_64 rfl ?_
        refine go_l qd118_65 rfl ?_
        obtain ⟨r22, e21, h⟩ := sw_bind h
        refine ga_kv (a := 221) (as := [.int (Int32.ofInt l1)]) (rest := []) qd118_66 qk118_88 (sw_sl hn (by decide)) rfl rfl rfl (Nat.le_of_ble_eq_true rfl) (Nat.le_of_ble_eq_true rfl) rfl (A111 hn e21 (sw_bk0 ?_))
        refine ga_jp (t := 91) qd118_69 rfl ?_
        rw [← sw_sj h] at kk
        exact ga_rv qd118_91 qr118 kk
      · replace h := sw_ifN hb20 h
        refine ga_zleN (t := 72) qd118_61 e19 hb20 rfl ?_
        refine go_l qd118_72 rfl ?_
        refine go_s qd118_73 rfl ?_
        obtain ⟨_u, e23, h⟩ := sw_bind h
        by_cases hb24 : s0 = (-1)
        · replace h := sw_ifY hb24 h
          refine ga_ceqY (t := 86) qd118_74 e23 hb24 rfl ?_
          refine go_l qd118_86 rfl ?_
          refine go_l qd118_87 rfl ?_
          obtain ⟨r26, e25, h⟩ := sw_bind h
          refine ga_kv (a := 221) (as := [.int (Int32.ofInt l1)]) (rest := []) qd118_88 qk118_94 (sw_sl hn (by decide)) rfl rfl rfl (Nat.le_of_ble_eq_true rfl) (Nat.le_of_ble_eq_true rfl) rfl (A117 hn e25 (sw_bk0 ?_))
          rw [← sw_sj h] at kk
          exact ga_rv qd118_91 qr118 kk
        · replace h := sw_ifN hb24 h
          refine ga_ceqN (t := 86) qd118_74 e23 hb24 rfl ?_
          refine go_l qd118_77 rfl ?_
          refine go_l qd118_78 rfl ?_
          refine go_l qd118_79 rfl ?_
          obtain ⟨r28, e27, h⟩ := sw_bind h
          refine ga_kv (a := 221) (as := [.int (Int32.ofInt l1), .int (Int32.ofInt s0)]) (rest := []) qd118_80 qk118_91 (sw_sl hn (by decide)) rfl rfl rfl (Nat.le_of_ble_eq_true rfl) (Nat.le_of_ble_eq_true rfl) rfl (A112 hn e27 (sw_bk0 ?_))
          refine ga_jp (t := 91) qd118_83 rfl ?_
          rw [← sw_sj h] at kk
          exact ga_rv qd118_91 qr118 kk
def w118 (T : sw_T) (p1 : Int) : Option (sw_T) :=
  (sw_r1 (T 221 9)).bind fun _u =>
  if (T 221 9) = 0 then
    (w115 T p1).bind fun r4 =>
    w118_16 T p1 r4
  else
    w118_16 T p1 (-1)
theorem A118 {G : sp_G} {z n : Nat} (hn : 228 ≤ n) {T : sw_T} {K : sw_K} {p1 : Int} {res : sw_T} {Q : sp_R → sp_M → Prop} (h : w118 T p1 = some res) (kk : Q (.inl none) (sw_M z n sw_Ft res K)) : sq_go G 118 0 [some (.ref (z + 221)), some (.int (Int32.ofInt p1)), none] [] (sw_M z n sw_Ft T K) Q := by
  unfold w118 at h
  refine go_l qd118_0 rfl ?_
  refine ga_gf (v := .int (Int32.ofInt (T 221 9))) qd118_1 qc118 qf6_76 (sw_sl hn (by decide)) rfl rfl ?_
  obtain ⟨_u, e1, h⟩ := sw_bind h
  by_cases hb2 : (T 221 9) = 0
  · replace h := sw_ifY hb2 h
    refine ga_zeqY (t := 11) qd118_4 e1 hb2 rfl ?_
    refine go_l qd118_11 rfl ?_
    refine go_l qd118_12 rfl ?_
    obtain ⟨r4, e3, h⟩ := sw_bind h
    refine ga_kv (a := 221) (as := [.int (Int32.ofInt p1)]) (rest := []) qd118_13 qk118_80 (sw_sl hn (by decide)) rfl rfl rfl (Nat.le_of_ble_eq_true rfl) (Nat.le_of_ble_eq_true rfl) rfl (A115 hn e3 (sw_bkv ?_))
    exact sq_weak (L := [some (.ref (z + 221)), some (.int (Int32.ofInt p1)), none]) ⟨rfl, rfl, trivial⟩ (B118_16 hn h kk)
  · replace h := sw_ifN hb2 h
    refine ga_zeqN (t := 11) qd118_4 e1 hb2 rfl ?_
    refine go_s qd118_7 rfl ?_
    refine ga_jp (t := 16) qd118_8 rfl ?_
    exact sq_weak (L := [some (.ref (z + 221)), some (.int (Int32.ofInt p1)), none]) ⟨rfl, rfl, trivial⟩ (B118_16 hn h kk)
theorem qc119 : sq_c 119 = 6 := by decide +kernel
theorem qk119_97 : sw_ck 119 97 118 0 1 6 3 = true := by decide +kernel
theorem qr119 : sq_ret 119 = none := by decide +kernel
-- 119: SewingPilesModel.passesOne()V
def w119_2 : Nat → sw_T → Int → Option (sw_T)
  | 0, _, _ => none
  | m + 1, T, l1 =>
    (sw_ld T 222 543 4).bind fun v2 =>
    (sw_r2 l1 v2).bind fun _u =>
    if l1 < v2 then
      (w118 T l1).bind fun r6 =>
      w119_2 m r6 (l1 + 1)
    else
      some (T)
theorem B119_2 {G : sp_G} {z n : Nat} (hn : 228 ≤ n) {K : sw_K} {res : sw_T} {Q : sp_R → sp_M → Prop} (kk : sq_go G 119 23 [some (.ref (z + 221)), none] [] (sw_M z n sw_Ft res K) Q) : ∀ (m : Nat) (T : sw_T) (l1 : Int), w119_2  m T l1 = some res → sq_go G 119 2 [some (.ref (z + 221)), some (.int (Int32.ofInt l1))] [] (sw_M z n sw_Ft T K) Q := by
  intro m
  induction m with
  | zero => intro T l1 h; cases h
  | succ m ih =>
    intro T l1 h
    rw [w119_2] at h
    refine go_l qd119_2 rfl ?_
    refine go_l qd119_3 rfl ?_
    refine ga_gf (v := .ref (z + 222)) qd119_4 qc119 qf6_7 (sw_sl hn (by decide)) rfl rfl ?_
    refine go_s qd119_7 rfl ?_
    obtain ⟨v2, e1, h⟩ := sw_bind h
    refine ga_iald qd119_8 (sw_sl hn (by decide)) e1 ?_
    obtain ⟨_u, e3, h⟩ := sw_bind h
    by_cases hb4 : l1 < v2
    · replace h := sw_ifY hb4 h
      refine ga_cgeY (t := 23) qd119_9 e3 hb4 rfl ?_
      refine go_l qd119_12 rfl ?_
      refine go_l qd119_13 rfl ?_
      obtain ⟨r6, e5, h⟩ := sw_bind h
      refine ga_kv (a := 221) (as := [.int (Int32.ofInt l1)]) (rest := []) qd119_14 qk119_97 (sw_sl hn (by decide)) rfl rfl rfl (Nat.le_of_ble_eq_true rfl) (Nat.le_of_ble_eq_true rfl) rfl (A118 hn e5 (sw_bk0 ?_))
      refine ga_ii (L' := [some (.ref (z + 221)), some (.int (Int32.ofInt (l1 + 1)))]) qd119_17 rfl rfl ?_
      refine ga_jp (t := 2) qd119_20 rfl ?_
      exact sq_weak (L := [some (.ref (z + 221)), some (.int (Int32.ofInt (l1 + 1)))]) ⟨rfl, rfl, trivial⟩ (ih _ _ h)
    · replace h := sw_ifN hb4 h
      refine ga_cgeN (t := 23) qd119_9 e3 hb4 rfl ?_
      rw [← sw_sj h] at kk
      exact sq_weak (L := [some (.ref (z + 221)), none]) ⟨rfl, trivial⟩ kk
def w119 (T : sw_T) : Option (sw_T) :=
  (w119_2 sw_N T 0).bind fun x7 =>
  (sw_ld x7 222 543 3).bind fun v10 =>
  (sw_st x7 222 543 3 (v10 + 1)).bind fun T12 =>
  some (T12)
theorem A119 {G : sp_G} {z n : Nat} (hn : 228 ≤ n) {T : sw_T} {K : sw_K} {res : sw_T} {Q : sp_R → sp_M → Prop} (h : w119 T = some res) (kk : Q (.inl none) (sw_M z n sw_Ft res K)) : sq_go G 119 0 [some (.ref (z + 221)), none] [] (sw_M z n sw_Ft T K) Q := by
  unfold w119 at h
  refine go_s qd119_0 rfl ?_
  refine go_l (L' := [some (.ref (z + 221)), some (.int (Int32.ofInt 0))]) (st' := []) qd119_1 rfl ?_
  obtain ⟨x7, e8, h⟩ := sw_bind h
  refine sq_weak (L := [some (.ref (z + 221)), some (.int (Int32.ofInt 0))]) ⟨rfl, rfl, trivial⟩ (B119_2 hn (res := x7) ?_ _ _ _ e8)
  refine go_l qd119_23 rfl ?_
  refine ga_gf (v := .ref (z + 222)) qd119_24 qc119 qf6_7 (sw_sl hn (by decide)) rfl rfl ?_
  refine go_s qd119_27 rfl ?_
  refine go_s qd119_28 rfl ?_
  obtain ⟨v10, e9, h⟩ := sw_bind h
  refine ga_iald qd119_29 (sw_sl hn (by decide)) e9 ?_
  refine go_s qd119_30 rfl ?_
  refine ga_iadd qd119_31 ?_
  obtain ⟨T12, e11, h⟩ := sw_bind h
  refine ga_iast qd119_32 (sw_sl hn (by decide)) e11 ?_
  rw [← sw_sj h] at kk
  exact ga_rv qd119_33 qr119 kk
theorem qk120_100 : sw_ck 120 100 119 0 0 6 2 = true := by decide +kernel
theorem qr120 : sq_ret 120 = none := by decide +kernel
-- 120: SewingPilesModel.passesAll(I)V
def w120_2 (l1 : Int) : Nat → sw_T → Int → Option (sw_T)
  | 0, _, _ => none
  | m + 1, T, l2 =>
    (sw_r2 l2 l1).bind fun _u =>
    if l2 < l1 then
      (w119 T).bind fun r4 =>
      w120_2 l1 m r4 (l2 + 1)
    else
      some (T)
theorem B120_2 {G : sp_G} {z n : Nat} (hn : 228 ≤ n) {l1 : Int} {K : sw_K} {res : sw_T} {Q : sp_R → sp_M → Prop} (kk : sq_go G 120 17 [none, none, none] [] (sw_M z n sw_Ft res K) Q) : ∀ (m : Nat) (T : sw_T) (l2 : Int), w120_2 l1 m T l2 = some res → sq_go G 120 2 [some (.ref (z + 221)), some (.int (Int32.ofInt l1)), some (.int (Int32.ofInt l2))] [] (sw_M z n sw_Ft T K) Q := by
  intro m
  induction m with
  | zero => intro T l2 h; cases h
  | succ m ih =>
    intro T l2 h
    rw [w120_2] at h
    refine go_l qd120_2 rfl ?_
    refine go_l qd120_3 rfl ?_
    obtain ⟨_u, e1, h⟩ := sw_bind h
    by_cases hb2 : l2 < l1
    · replace h := sw_ifY hb2 h
      refine ga_cgeY (t := 17) qd120_4 e1 hb2 rfl ?_
      refine go_l qd120_7 rfl ?_
      obtain ⟨r4, e3, h⟩ := sw_bind h
      refine ga_kv (a := 221) (as := []) (rest := []) qd120_8 qk120_100 (sw_sl hn (by decide)) rfl rfl rfl (Nat.le_of_ble_eq_true rfl) (Nat.le_of_ble_eq_true rfl) rfl (A119 hn e3 (sw_bk0 ?_))
      refine ga_ii (L' := [some (.ref (z + 221)), some (.int (Int32.ofInt l1)), some (.int (Int32.ofInt (l2 + 1)))]) qd120_11 rfl rfl ?_
      refine ga_jp (t := 2) qd120_14 rfl ?_
      exact sq_weak (L := [some (.ref (z + 221)), some (.int (Int32.ofInt l1)), some (.int (Int32.ofInt (l2 + 1)))]) ⟨rfl, rfl, rfl, trivial⟩ (ih _ _ h)
    · replace h := sw_ifN hb2 h
      refine ga_cgeN (t := 17) qd120_4 e1 hb2 rfl ?_
      rw [← sw_sj h] at kk
      exact sq_weak (L := [none, none, none]) trivial kk
def w120 (T : sw_T) (p1 : Int) : Option (sw_T) :=
  (w120_2 p1 sw_N T 0).bind fun x5 =>
  some (x5)
theorem A120 {G : sp_G} {z n : Nat} (hn : 228 ≤ n) {T : sw_T} {K : sw_K} {p1 : Int} {res : sw_T} {Q : sp_R → sp_M → Prop} (h : w120 T p1 = some res) (kk : Q (.inl none) (sw_M z n sw_Ft res K)) : sq_go G 120 0 [some (.ref (z + 221)), some (.int (Int32.ofInt p1)), none] [] (sw_M z n sw_Ft T K) Q := by
  unfold w120 at h
  refine go_s qd120_0 rfl ?_
  refine go_l (L' := [some (.ref (z + 221)), some (.int (Int32.ofInt p1)), some (.int (Int32.ofInt 0))]) (st' := []) qd120_1 rfl ?_
  obtain ⟨x5, e6, h⟩ := sw_bind h
  refine sq_weak (L := [some (.ref (z + 221)), some (.int (Int32.ofInt p1)), some (.int (Int32.ofInt 0))]) ⟨rfl, rfl, rfl, trivial⟩ (B120_2 hn (res := x5) ?_ _ _ _ e6)
  rw [← sw_sj h] at kk
  exact ga_rv qd120_17 qr120 kk
theorem qc121 : sq_c 121 = 6 := by decide +kernel
theorem qk121_43 : sw_ck 121 43 98 0 2 6 3 = true := by decide +kernel
theorem qr121 : sq_ret 121 = some .int := by decide +kernel
-- 121: SewingPilesModel.sumOf(I)I
def w121_4 (T : sw_T) (l1 : Int) : Nat → Int → Int → Option (Int)
  | 0, _, _ => none
  | m + 1, l2, l3 =>
    (sw_ld T 222 543 4).bind fun v2 =>
    (sw_r2 l3 v2).bind fun _u =>
    if l3 < v2 then
      (w98 T l3 l1).bind fun r6 =>
      w121_4 T l1 m (l2 + r6) (l3 + 1)
    else
      some (l2)
theorem B121_4 {G : sp_G} {z n : Nat} (hn : 228 ≤ n) {T : sw_T} {l1 : Int} {K : sw_K} {res : Int} {Q : sp_R → sp_M → Prop} (kk : sq_go G 121 29 [none, none, some (.int (Int32.ofInt res)), none] [] (sw_M z n sw_Ft T K) Q) : ∀ (m : Nat) (l2 : Int) (l3 : Int), w121_4 T l1 m l2 l3 = some res → sq_go G 121 4 [some (.ref (z + 221)), some (.int (Int32.ofInt l1)), some (.int (Int32.ofInt l2)), some (.int (Int32.ofInt l3))] [] (sw_M z n sw_Ft T K) Q := by
  intro m
  induction m with
  | zero => intro l2 l3 h; cases h
  | succ m ih =>
    intro l2 l3 h
    rw [w121_4] at h
    refine go_l qd121_4 rfl ?_
    refine go_l qd121_5 rfl ?_
    refine ga_gf (v := .ref (z + 222)) qd121_6 qc121 qf6_7 (sw_sl hn (by decide)) rfl rfl ?_
    refine go_s qd121_9 rfl ?_
    obtain ⟨v2, e1, h⟩ := sw_bind h
    refine ga_iald qd121_10 (sw_sl hn (by decide)) e1 ?_
    obtain ⟨_u, e3, h⟩ := sw_bind h
    by_cases hb4 : l3 < v2
    · replace h := sw_ifY hb4 h
      refine ga_cgeY (t := 29) qd121_11 e3 hb4 rfl ?_
      refine go_l qd121_14 rfl ?_
      refine go_l qd121_15 rfl ?_
      refine go_l qd121_16 rfl ?_
      refine go_l qd121_17 rfl ?_
      obtain ⟨r6, e5, h⟩ := sw_bind h
      refine ga_kv (a := 221) (as := [.int (Int32.ofInt l3), .int (Int32.ofInt l1)]) (rest := [.int (Int32.ofInt l2)]) qd121_18 qk121_43 (sw_sl hn (by decide)) rfl rfl rfl (Nat.le_of_ble_eq_true rfl) (Nat.le_of_ble_eq_true rfl) rfl (A98 hn e5 (sw_bkv ?_))
      refine ga_iadd qd121_21 ?_
      refine go_l (L' := [some (.ref (z + 221)), some (.int (Int32.ofInt l1)), some (.int (Int32.ofInt (l2 + r6))), some (.int (Int32.ofInt l3))]) (st' := []) qd121_22 rfl ?_
      refine ga_ii (L' := [some (.ref (z + 221)), some (.int (Int32.ofInt l1)), some (.int (Int32.ofInt (l2 + r6))), some (.int (Int32.ofInt (l3 + 1)))]) qd121_23 rfl rfl ?_
      refine ga_jp (t := 4) qd121_26 rfl ?_
      exact sq_weak (L := [some (.ref (z + 221)), some (.int (Int32.ofInt l1)), some (.int (Int32.ofInt (l2 + r6))), some (.int (Int32.ofInt (l3 + 1)))]) ⟨rfl, rfl, rfl, rfl, trivial⟩ (ih _ _ h)
    · replace h := sw_ifN hb4 h
      refine ga_cgeN (t := 29) qd121_11 e3 hb4 rfl ?_
      rw [← sw_sj h] at kk
      exact sq_weak (L := [none, none, some (.int (Int32.ofInt l2)), none]) ⟨rfl, trivial⟩ kk
def w121 (T : sw_T) (p1 : Int) : Option (Int) :=
  (w121_4 T p1 sw_N 0 0).bind fun x7 =>
  some (x7)
theorem A121 {G : sp_G} {z n : Nat} (hn : 228 ≤ n) {T : sw_T} {K : sw_K} {p1 : Int} {res : Int} {Q : sp_R → sp_M → Prop} (h : w121 T p1 = some res) (kk : Q (.inl (some (.int (Int32.ofInt res)))) (sw_M z n sw_Ft T K)) : sq_go G 121 0 [some (.ref (z + 221)), some (.int (Int32.ofInt p1)), none, none] [] (sw_M z n sw_Ft T K) Q := by
  unfold w121 at h
  refine go_s qd121_0 rfl ?_
  refine go_l (L' := [some (.ref (z + 221)), some (.int (Int32.ofInt p1)), some (.int (Int32.ofInt 0)), none]) (st' := []) qd121_1 rfl ?_
  refine go_s qd121_2 rfl ?_
  refine go_l (L' := [some (.ref (z + 221)), some (.int (Int32.ofInt p1)), some (.int (Int32.ofInt 0)), some (.int (Int32.ofInt 0))]) (st' := []) qd121_3 rfl ?_
  obtain ⟨x7, e8, h⟩ := sw_bind h
  refine sq_weak (L := [some (.ref (z + 221)), some (.int (Int32.ofInt p1)), some (.int (Int32.ofInt 0)), some (.int (Int32.ofInt 0))]) ⟨rfl, rfl, rfl, rfl, trivial⟩ (B121_4 hn (res := x7) ?_ _ _ _ e8)
  refine go_l qd121_29 rfl ?_
  rw [← sw_sj h] at kk
  exact ga_ri qd121_30 qr121 kk
theorem qc122 : sq_c 122 = 6 := by decide +kernel
theorem qk122_57 : sw_ck 122 57 102 0 2 6 3 = true := by decide +kernel
theorem qr122 : sq_ret 122 = some .int := by decide +kernel
-- 122: SewingPilesModel.workLeft()I
def w122_4 (T : sw_T) : Nat → Int → Int → Option (Int)
  | 0, _, _ => none
  | m + 1, l1, l2 =>
    (sw_ld T 222 543 5).bind fun v2 =>
    (sw_r2 l2 v2).bind fun _u =>
    if l2 < v2 then
      (w102 T l2 0).bind fun r6 =>
      w122_4 T m (l1 + r6) (l2 + 1)
    else
      some (l1)
theorem B122_4 {G : sp_G} {z n : Nat} (hn : 228 ≤ n) {T : sw_T} {K : sw_K} {res : Int} {Q : sp_R → sp_M → Prop} (kk : sq_go G 122 29 [none, some (.int (Int32.ofInt res)), none] [] (sw_M z n sw_Ft T K) Q) : ∀ (m : Nat) (l1 : Int) (l2 : Int), w122_4 T m l1 l2 = some res → sq_go G 122 4 [some (.ref (z + 221)), some (.int (Int32.ofInt l1)), some (.int (Int32.ofInt l2))] [] (sw_M z n sw_Ft T K) Q := by
  intro m
  induction m with
  | zero => intro l1 l2 h; cases h
  | succ m ih =>
    intro l1 l2 h
    rw [w122_4] at h
    refine go_l qd122_4 rfl ?_
    refine go_l qd122_5 rfl ?_
    refine ga_gf (v := .ref (z + 222)) qd122_6 qc122 qf6_7 (sw_sl hn (by decide)) rfl rfl ?_
    refine go_s qd122_9 rfl ?_
    obtain ⟨v2, e1, h⟩ := sw_bind h
    refine ga_iald qd122_10 (sw_sl hn (by decide)) e1 ?_
    obtain ⟨_u, e3, h⟩ := sw_bind h
    by_cases hb4 : l2 < v2
    · replace h := sw_ifY hb4 h
      refine ga_cgeY (t := 29) qd122_11 e3 hb4 rfl ?_
      refine go_l qd122_14 rfl ?_
      refine go_l qd122_15 rfl ?_
      refine go_l qd122_16 rfl ?_
      refine go_s qd122_17 rfl ?_
      obtain ⟨r6, e5, h⟩ := sw_bind h
      refine ga_kv (a := 221) (as := [.int (Int32.ofInt l2), .int (Int32.ofInt 0)]) (rest := [.int (Int32.ofInt l1)]) qd122_18 qk122_57 (sw_sl hn (by decide)) rfl rfl rfl (Nat.le_of_ble_eq_true rfl) (Nat.le_of_ble_eq_true rfl) rfl (A102 hn e5 (sw_bkv ?_))
      refine ga_iadd qd122_21 ?_
      refine go_l (L' := [some (.ref (z + 221)), some (.int (Int32.ofInt (l1 + r6))), some (.int (Int32.ofInt l2))]) (st' := []) qd122_22 rfl ?_
      refine ga_ii (L' := [some (.ref (z + 221)), some (.int (Int32.ofInt (l1 + r6))), some (.int (Int32.ofInt (l2 + 1)))]) qd122_23 rfl rfl ?_
      refine ga_jp (t := 4) qd122_26 rfl ?_
      exact sq_weak (L := [some (.ref (z + 221)), some (.int (Int32.ofInt (l1 + r6))), some (.int (Int32.ofInt (l2 + 1)))]) ⟨rfl, rfl, rfl, trivial⟩ (ih _ _ h)
    · replace h := sw_ifN hb4 h
      refine ga_cgeN (t := 29) qd122_11 e3 hb4 rfl ?_
      rw [← sw_sj h] at kk
      exact sq_weak (L := [none, some (.int (Int32.ofInt l1)), none]) ⟨rfl, trivial⟩ kk
def w122 (T : sw_T) : Option (Int) :=
  (w122_4 T sw_N 0 0).bind fun x7 =>
  some (x7)
theorem A122 {G : sp_G} {z n : Nat} (hn : 228 ≤ n) {T : sw_T} {K : sw_K} {res : Int} {Q : sp_R → sp_M → Prop} (h : w122 T = some res) (kk : Q (.inl (some (.int (Int32.ofInt res)))) (sw_M z n sw_Ft T K)) : sq_go G 122 0 [some (.ref (z + 221)), none, none] [] (sw_M z n sw_Ft T K) Q := by
  unfold w122 at h
  refine go_s qd122_0 rfl ?_
  refine go_l (L' := [some (.ref (z + 221)), some (.int (Int32.ofInt 0)), none]) (st' := []) qd122_1 rfl ?_
  refine go_s qd122_2 rfl ?_
  refine go_l (L' := [some (.ref (z + 221)), some (.int (Int32.ofInt 0)), some (.int (Int32.ofInt 0))]) (st' := []) qd122_3 rfl ?_
  obtain ⟨x7, e8, h⟩ := sw_bind h
  refine sq_weak (L := [some (.ref (z + 221)), some (.int (Int32.ofInt 0)), some (.int (Int32.ofInt 0))]) ⟨rfl, rfl, rfl, trivial⟩ (B122_4 hn (res := x7) ?_ _ _ _ e8)
  refine go_l qd122_29 rfl ?_
  rw [← sw_sj h] at kk
  exact ga_ri qd122_30 qr122 kk
theorem qc123 : sq_c 123 = 6 := by decide +kernel
theorem qk123_57 : sw_ck 123 57 102 0 2 6 3 = true := by decide +kernel
theorem qr123 : sq_ret 123 = some .int := by decide +kernel
-- 123: SewingPilesModel.shirtsThat(I)I
def w123_4 (T : sw_T) (l1 : Int) : Nat → Int → Int → Option (Int)
  | 0, _, _ => none
  | m + 1, l2, l3 =>
    (sw_ld T 222 543 5).bind fun v2 =>
    (sw_r2 l3 v2).bind fun _u =>
    if l3 < v2 then
      (w102 T l3 1).bind fun r6 =>
      (sw_r2 r6 l1).bind fun _u =>
      if r6 = l1 then
        w123_4 T l1 m (l2 + 1) (l3 + 1)
      else
        w123_4 T l1 m (l2 + 0) (l3 + 1)
    else
      some (l2)
theorem B123_4 {G : sp_G} {z n : Nat} (hn : 228 ≤ n) {T : sw_T} {l1 : Int} {K : sw_K} {res : Int} {Q : sp_R → sp_M → Prop} (kk : sq_go G 123 38 [none, none, some (.int (Int32.ofInt res)), none] [] (sw_M z n sw_Ft T K) Q) : ∀ (m : Nat) (l2 : Int) (l3 : Int), w123_4 T l1 m l2 l3 = some res → sq_go G 123 4 [some (.ref (z + 221)), some (.int (Int32.ofInt l1)), some (.int (Int32.ofInt l2)), some (.int (Int32.ofInt l3))] [] (sw_M z n sw_Ft T K) Q := by
  intro m
  induction m with
  | zero => intro l2 l3 h; cases h
  | succ m ih =>
    intro l2 l3 h
    rw [w123_4] at h
    refine go_l qd123_4 rfl ?_
    refine go_l qd123_5 rfl ?_
    refine ga_gf (v := .ref (z + 222)) qd123_6 qc123 qf6_7 (sw_sl hn (by decide)) rfl rfl ?_
    refine go_s qd123_9 rfl ?_
    obtain ⟨v2, e1, h⟩ := sw_bind h
    refine ga_iald qd123_10 (sw_sl hn (by decide)) e1 ?_
    obtain ⟨_u, e3, h⟩ := sw_bind h
    by_cases hb4 : l3 < v2
    · replace h := sw_ifY hb4 h
      refine ga_cgeY (t := 38) qd123_11 e3 hb4 rfl ?_
      refine go_l qd123_14 rfl ?_
      refine go_l qd123_15 rfl ?_
      refine go_l qd123_16 rfl ?_
      refine go_s qd123_17 rfl ?_
      obtain ⟨r6, e5, h⟩ := sw_bind h
      refine ga_kv (a := 221) (as := [.int (Int32.ofInt l3), .int (Int32.ofInt 1)]) (rest := [.int (Int32.ofInt l2)]) qd123_18 qk123_57 (sw_sl hn (by decide)) rfl rfl rfl (Nat.le_of_ble_eq_true rfl) (Nat.le_of_ble_eq_true rfl) rfl (A102 hn e5 (sw_bkv ?_))
      refine go_l qd123_21 rfl ?_
      obtain ⟨_u, e7, h⟩ := sw_bind h
      by_cases hb8 : r6 = l1
      · replace h := sw_ifY hb8 h
        refine ga_cneY (t := 29) qd123_22 e7 hb8 rfl ?_
        refine go_s qd123_25 rfl ?_
        refine ga_jp (t := 30) qd123_26 rfl ?_
        refine ga_iadd qd123_30 ?_
        refine go_l (L' := [some (.ref (z + 221)), some (.int (Int32.ofInt l1)), some (.int (Int32.ofInt (l2 + 1))), some (.int (Int32.ofInt l3))]) (st' := []) qd123_31 rfl ?_
        refine ga_ii (L' := [some (.ref (z + 221)), some (.int (Int32.ofInt l1)), some (.int (Int32.ofInt (l2 + 1))), some (.int (Int32.ofInt (l3 + 1)))]) qd123_32 rfl rfl ?_
        refine ga_jp (t := 4) qd123_35 rfl ?_
        exact sq_weak (L := [some (.ref (z + 221)), some (.int (Int32.ofInt l1)), some (.int (Int32.ofInt (l2 + 1))), some (.int (Int32.ofInt (l3 + 1)))]) ⟨rfl, rfl, rfl, rfl, trivial⟩ (ih _ _ h)
      · replace h := sw_ifN hb8 h
        refine ga_cneN (t := 29) qd123_22 e7 hb8 rfl ?_
        refine go_s qd123_29 rfl ?_
        refine ga_iadd qd123_30 ?_
        refine go_l (L' := [some (.ref (z + 221)), some (.int (Int32.ofInt l1)), some (.int (Int32.ofInt (l2 + 0))), some (.int (Int32.ofInt l3))]) (st' := []) qd123_31 rfl ?_
        refine ga_ii (L' := [some (.ref (z + 221)), some (.int (Int32.ofInt l1)), some (.int (Int32.ofInt (l2 + 0))), some (.int (Int32.ofInt (l3 + 1)))]) qd123_32 rfl rfl ?_
        refine ga_jp (t := 4) qd123_35 rfl ?_
        exact sq_weak (L := [some (.ref (z + 221)), some (.int (Int32.ofInt l1)), some (.int (Int32.ofInt (l2 + 0))), some (.int (Int32.ofInt (l3 + 1)))]) ⟨rfl, rfl, rfl, rfl, trivial⟩ (ih _ _ h)
    · replace h := sw_ifN hb4 h
      refine ga_cgeN (t := 38) qd123_11 e3 hb4 rfl ?_
      rw [← sw_sj h] at kk
      exact sq_weak (L := [none, none, some (.int (Int32.ofInt l2)), none]) ⟨rfl, trivial⟩ kk
def w123 (T : sw_T) (p1 : Int) : Option (Int) :=
  (w123_4 T p1 sw_N 0 0).bind fun x9 =>
  some (x9)
theorem A123 {G : sp_G} {z n : Nat} (hn : 228 ≤ n) {T : sw_T} {K : sw_K} {p1 : Int} {res : Int} {Q : sp_R → sp_M → Prop} (h : w123 T p1 = some res) (kk : Q (.inl (some (.int (Int32.ofInt res)))) (sw_M z n sw_Ft T K)) : sq_go G 123 0 [some (.ref (z + 221)), some (.int (Int32.ofInt p1)), none, none] [] (sw_M z n sw_Ft T K) Q := by
  unfold w123 at h
  refine go_s qd123_0 rfl ?_
  refine go_l (L' := [some (.ref (z + 221)), some (.int (Int32.ofInt p1)), some (.int (Int32.ofInt 0)), none]) (st' := []) qd123_1 rfl ?_
  refine go_s qd123_2 rfl ?_
  refine go_l (L' := [some (.ref (z + 221)), some (.int (Int32.ofInt p1)), some (.int (Int32.ofInt 0)), some (.int (Int32.ofInt 0))]) (st' := []) qd123_3 rfl ?_
  obtain ⟨x9, e10, h⟩ := sw_bind h
  refine sq_weak (L := [some (.ref (z + 221)), some (.int (Int32.ofInt p1)), some (.int (Int32.ofInt 0)), some (.int (Int32.ofInt 0))]) ⟨rfl, rfl, rfl, rfl, trivial⟩ (B123_4 hn (res := x9) ?_ _ _ _ e10)
  refine go_l qd123_38 rfl ?_
  rw [← sw_sj h] at kk
  exact ga_ri qd123_39 qr123 kk
theorem qc124 : sq_c 124 = 6 := by decide +kernel
theorem qk124_32 : sw_ck 124 32 99 0 3 6 4 = true := by decide +kernel
theorem qr124 : sq_ret 124 = some .int := by decide +kernel
-- 124: SewingPilesModel.hires(I)I
def w124_19 (l1 : Int) (l2 : Int) : Nat → sw_T → Int → Option (sw_T)
  | 0, _, _ => none
  | m + 1, T, l3 =>
    (sw_r2 l3 9).bind fun _u =>
    if l3 < 9 then
      (sw_r1 l3).bind fun _u =>
      if l3 = 0 then
        (w99 T l2 l3 l1).bind fun r12 =>
        w124_19 l1 l2 m r12 (l3 + 1)
      else
        (w99 T l2 l3 0).bind fun r14 =>
        w124_19 l1 l2 m r14 (l3 + 1)
    else
      some (T)
theorem B124_19 {G : sp_G} {z n : Nat} (hn : 228 ≤ n) {l1 : Int} {l2 : Int} {K : sw_K} {res : sw_T} {Q : sp_R → sp_M → Prop} (kk : sq_go G 124 46 [none, none, some (.int (Int32.ofInt l2)), none] [] (sw_M z n sw_Ft res K) Q) : ∀ (m : Nat) (T : sw_T) (l3 : Int), w124_19 l1 l2 m T l3 = some res → sq_go G 124 19 [some (.ref (z + 221)), some (.int (Int32.ofInt l1)), some (.int (Int32.ofInt l2)), some (.int (Int32.ofInt l3))] [] (sw_M z n sw_Ft T K) Q := by
  intro m
  induction m with
  | zero => intro T l3 h; cases h
  | succ m ih =>
    intro T l3 h
    rw [w124_19] at h
    refine go_l qd124_19 rfl ?_
    refine ga_k8 qd124_20 rfl ?_
    obtain ⟨_u, e7, h⟩ := sw_bind h
    by_cases hb8 : l3 < 9
    · replace h := sw_ifY hb8 h
      refine ga_cgeY (t := 46) qd124_22 e7 hb8 rfl ?_
      refine go_l qd124_25 rfl ?_
      refine go_l qd124_26 rfl ?_
      refine go_l qd124_27 rfl ?_
      refine go_l qd124_28 rfl ?_
      obtain ⟨_u, e9, h⟩ := sw_bind h
      by_cases hb10 : l3 = 0
      · replace h := sw_ifY hb10 h
        refine ga_zneY (t := 36) qd124_29 e9 hb10 rfl ?_
        refine go_l qd124_32 rfl ?_
        refine ga_jp (t := 37) qd124_33 rfl ?_
        obtain ⟨r12, e11, h⟩ := sw_bind h
        refine ga_kv (a := 221) (as := [.int (Int32.ofInt l2), .int (Int32.ofInt l3), .int (Int32.ofInt l1)]) (rest := []) qd124_37 qk124_32 (sw_sl hn (by decide)) rfl rfl rfl (Nat.le_of_ble_eq_true rfl) (Nat.le_of_ble_eq_true rfl) rfl (A99 hn e11 (sw_bk0 ?_))
        refine ga_ii (L' := [some (.ref (z + 221)), some (.int (Int32.ofInt l1)), some (.int (Int32.ofInt l2)), some (.int (Int32.ofInt (l3 + 1)))]) qd124_40 rfl rfl ?_
        refine ga_jp (t := 19) qd124_43 rfl ?_
        exact sq_weak (L := [some (.ref (z + 221)), some (.int (Int32.ofInt l1)), some (.int (Int32.ofInt l2)), some (.int (Int32.ofInt (l3 + 1)))]) ⟨rfl, rfl, rfl, rfl, trivial⟩ (ih _ _ h)
      · replace h := sw_ifN hb10 h
        refine ga_zneN (t := 36) qd124_29 e9 hb10 rfl ?_
        refine go_s qd124_36 rfl ?_
        obtain ⟨r14, e13, h⟩ := sw_bind h
        refine ga_kv (a := 221) (as := [.int (Int32.ofInt l2), .int (Int32.ofInt l3), .int (Int32.ofInt 0)]) (rest := []) qd124_37 qk124_32 (sw_sl hn (by decide)) rfl rfl rfl (Nat.le_of_ble_eq_true rfl) (Nat.le_of_ble_eq_true rfl) rfl (A99 hn e13 (sw_bk0 ?_))
        refine ga_ii (L' := [some (.ref (z + 221)), some (.int (Int32.ofInt l1)), some (.int (Int32.ofInt l2)), some (.int (Int32.ofInt (l3 + 1)))]) qd124_40 rfl rfl ?_
        refine ga_jp (t := 19) qd124_43 rfl ?_
        exact sq_weak (L := [some (.ref (z + 221)), some (.int (Int32.ofInt l1)), some (.int (Int32.ofInt l2)), some (.int (Int32.ofInt (l3 + 1)))]) ⟨rfl, rfl, rfl, rfl, trivial⟩ (ih _ _ h)
    · replace h := sw_ifN hb8 h
      refine ga_cgeN (t := 46) qd124_22 e7 hb8 rfl ?_
      rw [← sw_sj h] at kk
      exact sq_weak (L := [none, none, some (.int (Int32.ofInt l2)), none]) ⟨rfl, trivial⟩ kk
def w124 (T : sw_T) (p1 : Int) : Option (Int × sw_T) :=
  (sw_ld T 222 543 4).bind fun v2 =>
  (sw_ld T 222 543 4).bind fun v4 =>
  (sw_st T 222 543 4 (v4 + 1)).bind fun T6 =>
  (w124_19 p1 v2 sw_N T6 0).bind fun x15 =>
  some ((v2, x15))
theorem A124 {G : sp_G} {z n : Nat} (hn : 228 ≤ n) {T : sw_T} {K : sw_K} {p1 : Int} {res : Int × sw_T} {Q : sp_R → sp_M → Prop} (h : w124 T p1 = some res) (kk : Q (.inl (some (.int (Int32.ofInt res.1)))) (sw_M z n sw_Ft res.2 K)) : sq_go G 124 0 [some (.ref (z + 221)), some (.int (Int32.ofInt p1)), none, none] [] (sw_M z n sw_Ft T K) Q := by
  unfold w124 at h
  refine go_l qd124_0 rfl ?_
  refine ga_gf (v := .ref (z + 222)) qd124_1 qc124 qf6_7 (sw_sl hn (by decide)) rfl rfl ?_
  refine go_s qd124_4 rfl ?_
  obtain ⟨v2, e1, h⟩ := sw_bind h
  refine ga_iald qd124_5 (sw_sl hn (by decide)) e1 ?_
  refine go_l (L' := [some (.ref (z + 221)), some (.int (Int32.ofInt p1)), some (.int (Int32.ofInt v2)), none]) (st' := []) qd124_6 rfl ?_
  refine go_l qd124_7 rfl ?_
  refine ga_gf (v := .ref (z + 222)) qd124_8 qc124 qf6_7 (sw_sl hn (by decide)) rfl rfl ?_
  refine go_s qd124_11 rfl ?_
  refine go_s qd124_12 rfl ?_
  obtain ⟨v4, e3, h⟩ := sw_bind h
  refine ga_iald qd124_13 (sw_sl hn (by decide)) e3 ?_
  refine go_s qd124_14 rfl ?_
  refine ga_iadd qd124_15 ?_
  obtain ⟨T6, e5, h⟩ := sw_bind h
  refine ga_iast qd124_16 (sw_sl hn (by decide)) e5 ?_
  refine go_s qd124_17 rfl ?_
  refine go_l (L' := [some (.ref (z + 221)), some (.int (Int32.ofInt p1)), some (.int (Int32.ofInt v2)), some (.int (Int32.ofInt 0))]) (st' := []) qd124_18 rfl ?_
  obtain ⟨x15, e16, h⟩ := sw_bind h
  refine sq_weak (L := [some (.ref (z + 221)), some (.int (Int32.ofInt p1)), some (.int (Int32.ofInt v2)), some (.int (Int32.ofInt 0))]) ⟨rfl, rfl, rfl, rfl, trivial⟩ (B124_19 hn (res := x15) ?_ _ _ _ e16)
  refine go_l qd124_46 rfl ?_
  rw [← sw_sj h] at kk
  exact ga_ri qd124_47 qr124 kk
theorem qc125 : sq_c 125 = 6 := by decide +kernel
theorem qk125_36 : sw_ck 125 36 96 1 3 6 3 = true := by decide +kernel
theorem qk125_103 : sw_ck 125 103 97 0 1 6 2 = true := by decide +kernel
theorem qr125 : sq_ret 125 = some .int := by decide +kernel
theorem qk125_106 : sw_ck 125 106 105 0 0 6 2 = true := by decide +kernel
theorem qk125_109 : sw_ck 125 109 124 0 1 6 4 = true := by decide +kernel
-- 125: SewingPilesModel.hire(I)I
def w125 (T : sw_T) (p1 : Int) : Option (Int × sw_T) :=
  (sw_pf T 221 0 0).bind fun T1 =>
  (w96 T1 p1 1 9).bind fun r4 =>
  (sw_r1 r4).bind fun _u =>
  if r4 = 0 then
    (w97 T1 1).bind fun r8 =>
    some ((r8.1, r8.2))
  else
    (sw_ld T1 222 543 4).bind fun v10 =>
    (sw_r2 v10 6).bind fun _u =>
    if v10 = 6 then
      (w97 T1 2).bind fun r14 =>
      some ((r14.1, r14.2))
    else
      (w105 T1).bind fun r16 =>
      (w124 r16 p1).bind fun r18 =>
      some ((r18.1, r18.2))
theorem A125 {G : sp_G} {z n : Nat} (hn : 228 ≤ n) {T : sw_T} {K : sw_K} {p1 : Int} {res : Int × sw_T} {Q : sp_R → sp_M → Prop} (h : w125 T p1 = some res) (kk : Q (.inl (some (.int (Int32.ofInt res.1)))) (sw_M z n sw_Ft res.2 K)) : sq_go G 125 0 [some (.ref (z + 221)), some (.int (Int32.ofInt p1))] [] (sw_M z n sw_Ft T K) Q := by
  unfold w125 at h
  refine go_l qd125_0 rfl ?_
  refine go_s qd125_1 rfl ?_
  obtain ⟨T1, e2, h⟩ := sw_bind h
  refine ga_pfi qd125_2 qc125 qg6_28 (sw_sl hn (by decide)) rfl qi6_0 e2 ?_
  refine go_l qd125_5 rfl ?_
  refine go_s qd125_6 rfl ?_
  refine ga_k8 qd125_7 rfl ?_
  obtain ⟨r4, e3, h⟩ := sw_bind h
  refine ga_kS (as := [.int (Int32.ofInt p1), .int (Int32.ofInt 1), .int (Int32.ofInt 9)]) (rest := []) qd125_9 qk125_36 rfl rfl (Nat.le_of_ble_eq_true rfl) (Nat.le_of_ble_eq_true rfl) rfl (A96 hn e3 (sw_bkv ?_))
  obtain ⟨_u, e5, h⟩ := sw_bind h
  by_cases hb6 : r4 = 0
  · replace h := sw_ifY hb6 h
    refine ga_zneY (t := 21) qd125_12 e5 hb6 rfl ?_
    refine go_l qd125_15 rfl ?_
    refine go_s qd125_16 rfl ?_
    obtain ⟨r8, e7, h⟩ := sw_bind h
    refine ga_kv (a := 221) (as := [.int (Int32.ofInt 1)]) (rest := []) qd125_17 qk125_103 (sw_sl hn (by decide)) rfl rfl rfl (Nat.le_of_ble_eq_true rfl) (Nat.le_of_ble_eq_true rfl) rfl (A97 hn e7 (sw_bkv ?_))
    rw [← sw_sj h] at kk
    exact ga_ri qd125_20 qr125 kk
  · replace h := sw_ifN hb6 h
    refine ga_zneN (t := 21) qd125_12 e5 hb6 rfl ?_
    refine go_l qd125_21 rfl ?_
    refine ga_gf (v := .ref (z + 222)) qd125_22 qc125 qf6_7 (sw_sl hn (by decide)) rfl rfl ?_
    refine go_s qd125_25 rfl ?_
    obtain ⟨v10, e9, h⟩ := sw_bind h
    refine ga_iald qd125_26 (sw_sl hn (by decide)) e9 ?_
    refine ga_k8 qd125_27 rfl ?_
    obtain ⟨_u, e11, h⟩ := sw_bind h
    by_cases hb12 : v10 = 6
    · replace h := sw_ifY hb12 h
      refine ga_cneY (t := 38) qd125_29 e11 hb12 rfl ?_
      refine go_l qd125_32 rfl ?_
      refine go_s qd125_33 rfl ?_
      obtain ⟨r14, e13, h⟩ := sw_bind h
      refine ga_kv (a := 221) (as := [.int (Int32.ofInt 2)]) (rest := []) qd125_34 qk125_103 (sw_sl hn (by decide)) rfl rfl rfl (Nat.le_of_ble_eq_true rfl) (Nat.le_of_ble_eq_true rfl) rfl (A97 hn e13 (sw_bkv ?_))
      rw [← sw_sj h] at kk
      exact ga_ri qd125_37 qr125 kk
    · replace h := sw_ifN hb12 h
      refine ga_cneN (t := 38) qd125_29 e11 hb12 rfl ?_
      refine go_l qd125_38 rfl ?_
      obtain ⟨r16, e15, h⟩ := sw_bind h
      refine ga_kv (a := 221) (as := []) (rest := []) qd125_39 qk125_106 (sw_sl hn (by decide)) rfl rfl rfl (Nat.le_of_ble_eq_true rfl) (Nat.le_of_ble_eq_true rfl) rfl (A105 hn e15 (sw_bk0 ?_))
      refine go_l qd125_42 rfl ?_
      refine go_l qd125_43 rfl ?_
      obtain ⟨r18, e17, h⟩ := sw_bind h
      refine ga_kv (a := 221) (as := [.int (Int32.ofInt p1)]) (rest := []) qd125_44 qk125_109 (sw_sl hn (by decide)) rfl rfl rfl (Nat.le_of_ble_eq_true rfl) (Nat.le_of_ble_eq_true rfl) rfl (A124 hn e17 (sw_bkv ?_))
      rw [← sw_sj h] at kk
      exact ga_ri qd125_47 qr125 kk
theorem qc126 : sq_c 126 = 6 := by decide +kernel
theorem qk126_112 : sw_ck 126 112 104 0 1 6 2 = true := by decide +kernel
theorem qk126_103 : sw_ck 126 103 97 0 1 6 2 = true := by decide +kernel
theorem qr126 : sq_ret 126 = some .int := by decide +kernel
theorem qk126_36 : sw_ck 126 36 96 1 3 6 3 = true := by decide +kernel
theorem qk126_106 : sw_ck 126 106 105 0 0 6 2 = true := by decide +kernel
theorem qk126_43 : sw_ck 126 43 98 0 2 6 3 = true := by decide +kernel
theorem qk126_32 : sw_ck 126 32 99 0 3 6 4 = true := by decide +kernel
-- 126: SewingPilesModel.speed(II)I
def w126 (T : sw_T) (p1 : Int) (p2 : Int) : Option (Int × sw_T) :=
  (sw_pf T 221 0 0).bind fun T1 =>
  (w104 T1 p1).bind fun r4 =>
  (sw_r1 r4).bind fun _u =>
  if r4 = 0 then
    (w97 T1 1).bind fun r8 =>
    some ((r8.1, r8.2))
  else
    (w96 T1 p2 1 9).bind fun r10 =>
    (sw_r1 r10).bind fun _u =>
    if r10 = 0 then
      (w97 T1 2).bind fun r14 =>
      some ((r14.1, r14.2))
    else
      (w105 T1).bind fun r16 =>
      (w98 r16 p1 0).bind fun r18 =>
      (w99 r16 p1 0 p2).bind fun r20 =>
      some ((r18, r20))
theorem A126 {G : sp_G} {z n : Nat} (hn : 228 ≤ n) {T : sw_T} {K : sw_K} {p1 : Int} {p2 : Int} {res : Int × sw_T} {Q : sp_R → sp_M → Prop} (h : w126 T p1 p2 = some res) (kk : Q (.inl (some (.int (Int32.ofInt res.1)))) (sw_M z n sw_Ft res.2 K)) : sq_go G 126 0 [some (.ref (z + 221)), some (.int (Int32.ofInt p1)), some (.int (Int32.ofInt p2)), none] [] (sw_M z n sw_Ft T K) Q := by
  unfold w126 at h
  refine go_l qd126_0 rfl ?_
  refine go_s qd126_1 rfl ?_
  obtain ⟨T1, e2, h⟩ := sw_bind h
  refine ga_pfi qd126_2 qc126 qg6_28 (sw_sl hn (by decide)) rfl qi6_0 e2 ?_
  refine go_l qd126_5 rfl ?_
  refine go_l qd126_6 rfl ?_
  obtain ⟨r4, e3, h⟩ := sw_bind h
  refine ga_kv (a := 221) (as := [.int (Int32.ofInt p1)]) (rest := []) qd126_7 qk126_112 (sw_sl hn (by decide)) rfl rfl rfl (Nat.le_of_ble_eq_true rfl) (Nat.le_of_ble_eq_true rfl) rfl (A104 hn e3 (sw_bkv ?_))
  obtain ⟨_u, e5, h⟩ := sw_bind h
  by_cases hb6 : r4 = 0
  · replace h := sw_ifY hb6 h
    refine ga_zneY (t := 19) qd126_10 e5 hb6 rfl ?_
    refine go_l qd126_13 rfl ?_
    refine go_s qd126_14 rfl ?_
    obtain ⟨r8, e7, h⟩ := sw_bind h
    refine ga_kv (a := 221) (as := [.int (Int32.ofInt 1)]) (rest := []) qd126_15 qk126_103 (sw_sl hn (by decide)) rfl rfl rfl (Nat.le_of_ble_eq_true rfl) (Nat.le_of_ble_eq_true rfl) rfl (A97 hn e7 (sw_bkv ?_))
    rw [← sw_sj h] at kk
    exact ga_ri qd126_18 qr126 kk
  · replace h := sw_ifN hb6 h
    refine ga_zneN (t := 19) qd126_10 e5 hb6 rfl ?_
    refine go_l qd126_19 rfl ?_
    refine go_s qd126_20 rfl ?_
    refine ga_k8 qd126_21 rfl ?_
    obtain ⟨r10, e9, h⟩ := sw_bind h
    refine ga_kS (as := [.int (Int32.ofInt p2), .int (Int32.ofInt 1), .int (Int32.ofInt 9)]) (rest := []) qd126_23 qk126_36 rfl rfl (Nat.le_of_ble_eq_true rfl) (Nat.le_of_ble_eq_true rfl) rfl (A96 hn e9 (sw_bkv ?_))
    obtain ⟨_u, e11, h⟩ := sw_bind h
    by_cases hb12 : r10 = 0
    · replace h := sw_ifY hb12 h
      refine ga_zneY (t := 35) qd126_26 e11 hb12 rfl ?_
      refine go_l qd126_29 rfl ?_
      refine go_s qd126_30 rfl ?_
      obtain ⟨r14, e13, h⟩ := sw_bind h
      refine ga_kv (a := 221) (as := [.int (Int32.ofInt 2)]) (rest := []) qd126_31 qk126_103 (sw_sl hn (by decide)) rfl rfl rfl (Nat.le_of_ble_eq_true rfl) (Nat.le_of_ble_eq_true rfl) rfl (A97 hn e13 (sw_bkv ?_))
      rw [← sw_sj h] at kk
      exact ga_ri qd126_34 qr126 kk
    · replace h := sw_ifN hb12 h
      refine ga_zneN (t := 35) qd126_26 e11 hb12 rfl ?_
      refine go_l qd126_35 rfl ?_
      obtain ⟨r16, e15, h⟩ := sw_bind h
      refine ga_kv (a := 221) (as := []) (rest := []) qd126_36 qk126_106 (sw_sl hn (by decide)) rfl rfl rfl (Nat.le_of_ble_eq_true rfl) (Nat.le_of_ble_eq_true rfl) rfl (A105 hn e15 (sw_bk0 ?_))
      refine go_l qd126_39 rfl ?_
      refine go_l qd126_40 rfl ?_
      refine go_s qd126_41 rfl ?_
      obtain ⟨r18, e17, h⟩ := sw_bind h
      refine ga_kv (a := 221) (as := [.int (Int32.ofInt p1), .int (Int32.ofInt 0)]) (rest := []) qd126_42 qk126_43 (sw_sl hn (by decide)) rfl rfl rfl (Nat.le_of_ble_eq_true rfl) (Nat.le_of_ble_eq_true rfl) rfl (A98 hn e17 (sw_bkv ?_))
      refine go_l (L' := [some (.ref (z + 221)), some (.int (Int32.ofInt p1)), some (.int (Int32.ofInt p2)), some (.int (Int32.ofInt r18))]) (st' := []) qd126_45 rfl ?_
      refine go_l qd126_46 rfl ?_
      refine go_l qd126_47 rfl ?_
      refine go_s qd126_48 rfl ?_
      refine go_l qd126_49 rfl ?_
      obtain ⟨r20, e19, h⟩ := sw_bind h
      refine ga_kv (a := 221) (as := [.int (Int32.ofInt p1), .int (Int32.ofInt 0), .int (Int32.ofInt p2)]) (rest := []) qd126_50 qk126_32 (sw_sl hn (by decide)) rfl rfl rfl (Nat.le_of_ble_eq_true rfl) (Nat.le_of_ble_eq_true rfl) rfl (A99 hn e19 (sw_bk0 ?_))
      refine go_l qd126_53 rfl ?_
      rw [← sw_sj h] at kk
      exact ga_ri qd126_54 qr126 kk
