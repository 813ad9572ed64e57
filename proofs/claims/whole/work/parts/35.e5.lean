/-! ===== the methods as functions over tables ===== -/
theorem qk127_43 : sw_ck 127 43 98 0 2 6 3 = true := by decide +kernel
theorem qc127 : sq_c 127 = 6 := by decide +kernel
theorem qr127 : sq_ret 127 = some .boolean := by decide +kernel
-- 127: SewingPilesModel.canLay(I)Z
def w127 (T : sw_T) (p1 : Int) : Option (Int) :=
  (w98 T p1 8).bind fun r2 =>
  (sw_r2 r2 16).bind fun _u =>
  if r2 < 16 then
    (sw_ld T 222 543 5).bind fun v6 =>
    (sw_r2 v6 120).bind fun _u =>
    if v6 < 120 then
      some (1)
    else
      some (0)
  else
    some (0)
theorem A127 {G : sp_G} {z n : Nat} (hn : 228 ≤ n) {T : sw_T} {K : sw_K} {p1 : Int} {res : Int} {Q : sp_R → sp_M → Prop} (h : w127 T p1 = some res) (kk : Q (.inl (some (.int (Int32.ofInt res)))) (sw_M z n sw_Ft T K)) : sq_go G 127 0 [some (.ref (z + 221)), some (.int (Int32.ofInt p1))] [] (sw_M z n sw_Ft T K) Q := by
  unfold w127 at h
  refine go_l qd127_0 rfl ?_
  refine go_l qd127_1 rfl ?_
  refine ga_k8 qd127_2 rfl ?_
  obtain ⟨r2, e1, h⟩ := sw_bind h
  refine ga_kv (a := 221) (as := [.int (Int32.ofInt p1), .int (Int32.ofInt 8)]) (rest := []) qd127_4 qk127_43 (sw_sl hn (by decide)) rfl rfl rfl (Nat.le_of_ble_eq_true rfl) (Nat.le_of_ble_eq_true rfl) rfl (A98 hn e1 (sw_bkv ?_))
  refine ga_k8 qd127_7 rfl ?_
  obtain ⟨_u, e3, h⟩ := sw_bind h
  by_cases hb4 : r2 < 16
  · replace h := sw_ifY hb4 h
    refine ga_cgeY (t := 27) qd127_9 e3 hb4 rfl ?_
    refine go_l qd127_12 rfl ?_
    refine ga_gf (v := .ref (z + 222)) qd127_13 qc127 qf6_7 (sw_sl hn (by decide)) rfl rfl ?_
    refine go_s qd127_16 rfl ?_
    obtain ⟨v6, e5, h⟩ := sw_bind h
    refine ga_iald qd127_17 (sw_sl hn (by decide)) e5 ?_
    refine ga_k8 qd127_18 rfl ?_
    obtain ⟨_u, e7, h⟩ := sw_bind h
    by_cases hb8 : v6 < 120
    · replace h := sw_ifY hb8 h
      refine ga_cgeY (t := 27) qd127_20 e7 hb8 rfl ?_
      refine go_s qd127_23 rfl ?_
      refine ga_jp (t := 28) qd127_24 rfl ?_
      rw [← sw_sj h] at kk
      exact ga_rb (u := ()) qd127_28 qr127 (by decide) kk
    · replace h := sw_ifN hb8 h
      refine ga_cgeN (t := 27) qd127_20 e7 hb8 rfl ?_
      refine go_s qd127_27 rfl ?_
      rw [← sw_sj h] at kk
      exact ga_rb (u := ()) qd127_28 qr127 (by decide) kk
  · replace h := sw_ifN hb4 h
    refine ga_cgeN (t := 27) qd127_9 e3 hb4 rfl ?_
    refine go_s qd127_27 rfl ?_
    rw [← sw_sj h] at kk
    exact ga_rb (u := ()) qd127_28 qr127 (by decide) kk
theorem qc128 : sq_c 128 = 6 := by decide +kernel
theorem qk128_112 : sw_ck 128 112 104 0 1 6 2 = true := by decide +kernel
theorem qk128_103 : sw_ck 128 103 97 0 1 6 2 = true := by decide +kernel
theorem qr128 : sq_ret 128 = some .int := by decide +kernel
theorem qk128_36 : sw_ck 128 36 96 1 3 6 3 = true := by decide +kernel
theorem qk128_116 : sw_ck 128 116 127 0 1 6 2 = true := by decide +kernel
theorem qk128_106 : sw_ck 128 106 105 0 0 6 2 = true := by decide +kernel
theorem qk128_60 : sw_ck 128 60 109 0 2 6 4 = true := by decide +kernel
-- 128: SewingPilesModel.lay(II)I
def w128 (T : sw_T) (p1 : Int) (p2 : Int) : Option (Int × sw_T) :=
  (sw_pf T 221 0 0).bind fun T1 =>
  (w104 T1 p1).bind fun r4 =>
  (sw_r1 r4).bind fun _u =>
  if r4 = 0 then
    (w97 T1 1).bind fun r8 =>
    some ((r8.1, r8.2))
  else
    (w96 T1 p2 1 99).bind fun r10 =>
    (sw_r1 r10).bind fun _u =>
    if r10 = 0 then
      (w97 T1 2).bind fun r14 =>
      some ((r14.1, r14.2))
    else
      (w127 T1 p1).bind fun r16 =>
      (sw_r1 r16).bind fun _u =>
      if r16 = 0 then
        (w97 T1 3).bind fun r20 =>
        some ((r20.1, r20.2))
      else
        (w105 T1).bind fun r22 =>
        (w109 r22 p1 p2).bind fun r24 =>
        some ((r24.1, r24.2))
theorem A128 {G : sp_G} {z n : Nat} (hn : 228 ≤ n) {T : sw_T} {K : sw_K} {p1 : Int} {p2 : Int} {res : Int × sw_T} {Q : sp_R → sp_M → Prop} (h : w128 T p1 p2 = some res) (kk : Q (.inl (some (.int (Int32.ofInt res.1)))) (sw_M z n sw_Ft res.2 K)) : sq_go G 128 0 [some (.ref (z + 221)), some (.int (Int32.ofInt p1)), some (.int (Int32.ofInt p2))] [] (sw_M z n sw_Ft T K) Q := by
  unfold w128 at h
  refine go_l qd128_0 rfl ?_
  refine go_s qd128_1 rfl ?_
  obtain ⟨T1, e2, h⟩ := sw_bind h
  refine ga_pfi qd128_2 qc128 qg6_28 (sw_sl hn (by decide)) rfl qi6_0 e2 ?_
  refine go_l qd128_5 rfl ?_
  refine go_l qd128_6 rfl ?_
  obtain ⟨r4, e3, h⟩ := sw_bind h
  refine ga_kv (a := 221) (as := [.int (Int32.ofInt p1)]) (rest := []) qd128_7 qk128_112 (sw_sl hn (by decide)) rfl rfl rfl (Nat.le_of_ble_eq_true rfl) (Nat.le_of_ble_eq_true rfl) rfl (A104 hn e3 (sw_bkv ?_))
  obtain ⟨_u, e5, h⟩ := sw_bind h
  by_cases hb6 : r4 = 0
  · replace h := sw_ifY hb6 h
    refine ga_zneY (t := 19) qd128_10 e5 hb6 rfl ?_
    refine go_l qd128_13 rfl ?_
    refine go_s qd128_14 rfl ?_
    obtain ⟨r8, e7, h⟩ := sw_bind h
    refine ga_kv (a := 221) (as := [.int (Int32.ofInt 1)]) (rest := []) qd128_15 qk128_103 (sw_sl hn (by decide)) rfl rfl rfl (Nat.le_of_ble_eq_true rfl) (Nat.le_of_ble_eq_true rfl) rfl (A97 hn e7 (sw_bkv ?_))
    rw [← sw_sj h] at kk
    exact ga_ri qd128_18 qr128 kk
  · replace h := sw_ifN hb6 h
    refine ga_zneN (t := 19) qd128_10 e5 hb6 rfl ?_
    refine go_l qd128_19 rfl ?_
    refine go_s qd128_20 rfl ?_
    refine ga_k8 qd128_21 rfl ?_
    obtain ⟨r10, e9, h⟩ := sw_bind h
    refine ga_kS (as := [.int (Int32.ofInt p2), .int (Int32.ofInt 1), .int (Int32.ofInt 99)]) (rest := []) qd128_23 qk128_36 rfl rfl (Nat.le_of_ble_eq_true rfl) (Nat.le_of_ble_eq_true rfl) rfl (A96 hn e9 (sw_bkv ?_))
    obtain ⟨_u, e11, h⟩ := sw_bind h
    by_cases hb12 : r10 = 0
    · replace h := sw_ifY hb12 h
      refine ga_zneY (t := 35) qd128_26 e11 hb12 rfl ?_
      refine go_l qd128_29 rfl ?_
      refine go_s qd128_30 rfl ?_
      obtain ⟨r14, e13, h⟩ := sw_bind h
      refine ga_kv (a := 221) (as := [.int (Int32.ofInt 2)]) (rest := []) qd128_31 qk128_103 (sw_sl hn (by decide)) rfl rfl rfl (Nat.le_of_ble_eq_true rfl) (Nat.le_of_ble_eq_true rfl) rfl (A97 hn e13 (sw_bkv ?_))
      rw [← sw_sj h] at kk
      exact ga_ri qd128_34 qr128 kk
    · replace h := sw_ifN hb12 h
      refine ga_zneN (t := 35) qd128_26 e11 hb12 rfl ?_
      refine go_l qd128_35 rfl ?_
      refine go_l qd128_36 rfl ?_
      obtain ⟨r16, e15, h⟩ := sw_bind h
      refine ga_kv (a := 221) (as := [.int (Int32.ofInt p1)]) (rest := []) qd128_37 qk128_116 (sw_sl hn (by decide)) rfl rfl rfl (Nat.le_of_ble_eq_true rfl) (Nat.le_of_ble_eq_true rfl) rfl (A127 hn e15 (sw_bkv ?_))
      obtain ⟨_u, e17, h⟩ := sw_bind h
      by_cases hb18 : r16 = 0
      · replace h := sw_ifY hb18 h
        refine ga_zneY (t := 49) qd128_40 e17 hb18 rfl ?_
        refine go_l qd128_43 rfl ?_
        refine go_s qd128_44 rfl ?_
        obtain ⟨r20, e19, h⟩ := sw_bind h
        refine ga_kv (a := 221) (as := [.int (Int32.ofInt 3)]) (rest := []) qd128_45 qk128_103 (sw_sl hn (by decide)) rfl rfl rfl (Nat.le_of_ble_eq_true rfl) (Nat.le_of_ble_eq_true rfl) rfl (A97 hn e19 (sw_bkv ?_))
        rw [← sw_sj h] at kk
        exact ga_ri qd128_48 qr128 kk
      · replace h := sw_ifN hb18 h
        refine ga_zneN (t := 49) qd128_40 e17 hb18 rfl ?_
        refine go_l qd128_49 rfl ?_
        obtain ⟨r22, e21, h⟩ := sw_bind h
        refine ga_kv (a := 221) (as := []) (rest := []) qd128_50 qk128_106 (sw_sl hn (by decide)) rfl rfl rfl (Nat.le_of_ble_eq_true rfl) (Nat.le_of_ble_eq_true rfl) rfl (A105 hn e21 (sw_bk0 ?_))
        refine go_l qd128_53 rfl ?_
        refine go_l qd128_54 rfl ?_
        refine go_l qd128_55 rfl ?_
        obtain ⟨r24, e23, h⟩ := sw_bind h
        refine ga_kv (a := 221) (as := [.int (Int32.ofInt p1), .int (Int32.ofInt p2)]) (rest := []) qd128_56 qk128_60 (sw_sl hn (by decide)) rfl rfl rfl (Nat.le_of_ble_eq_true rfl) (Nat.le_of_ble_eq_true rfl) rfl (A109 hn e23 (sw_bkv ?_))
        rw [← sw_sj h] at kk
        exact ga_ri qd128_59 qr128 kk
theorem qk129_43 : sw_ck 129 43 98 0 2 6 3 = true := by decide +kernel
theorem qk129_32 : sw_ck 129 32 99 0 3 6 4 = true := by decide +kernel
theorem qr129 : sq_ret 129 = some .int := by decide +kernel
-- 129: SewingPilesModel.wakes(I)I
def w129 (T : sw_T) (p1 : Int) : Option (Int × sw_T) :=
  (w98 T p1 3).bind fun r2 =>
  (w99 T p1 3 0).bind fun r4 =>
  (w99 r4 p1 2 0).bind fun r6 =>
  some ((r2, r6))
theorem A129 {G : sp_G} {z n : Nat} (hn : 228 ≤ n) {T : sw_T} {K : sw_K} {p1 : Int} {res : Int × sw_T} {Q : sp_R → sp_M → Prop} (h : w129 T p1 = some res) (kk : Q (.inl (some (.int (Int32.ofInt res.1)))) (sw_M z n sw_Ft res.2 K)) : sq_go G 129 0 [some (.ref (z + 221)), some (.int (Int32.ofInt p1)), none] [] (sw_M z n sw_Ft T K) Q := by
  unfold w129 at h
  refine go_l qd129_0 rfl ?_
  refine go_l qd129_1 rfl ?_
  refine go_s qd129_2 rfl ?_
  obtain ⟨r2, e1, h⟩ := sw_bind h
  refine ga_kv (a := 221) (as := [.int (Int32.ofInt p1), .int (Int32.ofInt 3)]) (rest := []) qd129_3 qk129_43 (sw_sl hn (by decide)) rfl rfl rfl (Nat.le_of_ble_eq_true rfl) (Nat.le_of_ble_eq_true rfl) rfl (A98 hn e1 (sw_bkv ?_))
  refine go_l (L' := [some (.ref (z + 221)), some (.int (Int32.ofInt p1)), some (.int (Int32.ofInt r2))]) (st' := []) qd129_6 rfl ?_
  refine go_l qd129_7 rfl ?_
  refine go_l qd129_8 rfl ?_
  refine go_s qd129_9 rfl ?_
  refine go_s qd129_10 rfl ?_
  obtain ⟨r4, e3, h⟩ := sw_bind h
  refine ga_kv (a := 221) (as := [.int (Int32.ofInt p1), .int (Int32.ofInt 3), .int (Int32.ofInt 0)]) (rest := []) qd129_11 qk129_32 (sw_sl hn (by decide)) rfl rfl rfl (Nat.le_of_ble_eq_true rfl) (Nat.le_of_ble_eq_true rfl) rfl (A99 hn e3 (sw_bk0 ?_))
  refine go_l qd129_14 rfl ?_
  refine go_l qd129_15 rfl ?_
  refine go_s qd129_16 rfl ?_
  refine go_s qd129_17 rfl ?_
  obtain ⟨r6, e5, h⟩ := sw_bind h
  refine ga_kv (a := 221) (as := [.int (Int32.ofInt p1), .int (Int32.ofInt 2), .int (Int32.ofInt 0)]) (rest := []) qd129_18 qk129_32 (sw_sl hn (by decide)) rfl rfl rfl (Nat.le_of_ble_eq_true rfl) (Nat.le_of_ble_eq_true rfl) rfl (A99 hn e5 (sw_bk0 ?_))
  refine go_l qd129_21 rfl ?_
  rw [← sw_sj h] at kk
  exact ga_ri qd129_22 qr129 kk
theorem qc130 : sq_c 130 = 6 := by decide +kernel
theorem qk130_112 : sw_ck 130 112 104 0 1 6 2 = true := by decide +kernel
theorem qk130_103 : sw_ck 130 103 97 0 1 6 2 = true := by decide +kernel
theorem qr130 : sq_ret 130 = some .int := by decide +kernel
theorem qk130_106 : sw_ck 130 106 105 0 0 6 2 = true := by decide +kernel
theorem qk130_119 : sw_ck 130 119 129 0 1 6 3 = true := by decide +kernel
-- 130: SewingPilesModel.wake(I)I
def w130 (T : sw_T) (p1 : Int) : Option (Int × sw_T) :=
  (sw_pf T 221 0 0).bind fun T1 =>
  (w104 T1 p1).bind fun r4 =>
  (sw_r1 r4).bind fun _u =>
  if r4 = 0 then
    (w97 T1 1).bind fun r8 =>
    some ((r8.1, r8.2))
  else
    (w105 T1).bind fun r10 =>
    (w129 r10 p1).bind fun r12 =>
    some ((r12.1, r12.2))
theorem A130 {G : sp_G} {z n : Nat} (hn : 228 ≤ n) {T : sw_T} {K : sw_K} {p1 : Int} {res : Int × sw_T} {Q : sp_R → sp_M → Prop} (h : w130 T p1 = some res) (kk : Q (.inl (some (.int (Int32.ofInt res.1)))) (sw_M z n sw_Ft res.2 K)) : sq_go G 130 0 [some (.ref (z + 221)), some (.int (Int32.ofInt p1))] [] (sw_M z n sw_Ft T K) Q := by
  unfold w130 at h
  refine go_l qd130_0 rfl ?_
  refine go_s qd130_1 rfl ?_
  obtain ⟨T1, e2, h⟩ := sw_bind h
  refine ga_pfi qd130_2 qc130 qg6_28 (sw_sl hn (by decide)) rfl qi6_0 e2 ?_
  refine go_l qd130_5 rfl ?_
  refine go_l qd130_6 rfl ?_
  obtain ⟨r4, e3, h⟩ := sw_bind h
  refine ga_kv (a := 221) (as := [.int (Int32.ofInt p1)]) (rest := []) qd130_7 qk130_112 (sw_sl hn (by decide)) rfl rfl rfl (Nat.le_of_ble_eq_true rfl) (Nat.le_of_ble_eq_true rfl) rfl (A104 hn e3 (sw_bkv ?_))
  obtain ⟨_u, e5, h⟩ := sw_bind h
  by_cases hb6 : r4 = 0
  · replace h := sw_ifY hb6 h
    refine ga_zneY (t := 19) qd130_10 e5 hb6 rfl ?_
    refine go_l qd130_13 rfl ?_
    refine go_s qd130_14 rfl ?_
    obtain ⟨r8, e7, h⟩ := sw_bind h
    refine ga_kv (a := 221) (as := [.int (Int32.ofInt 1)]) (rest := []) qd130_15 qk130_103 (sw_sl hn (by decide)) rfl rfl rfl (Nat.le_of_ble_eq_true rfl) (Nat.le_of_ble_eq_true rfl) rfl (A97 hn e7 (sw_bkv ?_))
    rw [← sw_sj h] at kk
    exact ga_ri qd130_18 qr130 kk
  · replace h := sw_ifN hb6 h
    refine ga_zneN (t := 19) qd130_10 e5 hb6 rfl ?_
    refine go_l qd130_19 rfl ?_
    obtain ⟨r10, e9, h⟩ := sw_bind h
    refine ga_kv (a := 221) (as := []) (rest := []) qd130_20 qk130_106 (sw_sl hn (by decide)) rfl rfl rfl (Nat.le_of_ble_eq_true rfl) (Nat.le_of_ble_eq_true rfl) rfl (A105 hn e9 (sw_bk0 ?_))
    refine go_l qd130_23 rfl ?_
    refine go_l qd130_24 rfl ?_
    obtain ⟨r12, e11, h⟩ := sw_bind h
    refine ga_kv (a := 221) (as := [.int (Int32.ofInt p1)]) (rest := []) qd130_25 qk130_119 (sw_sl hn (by decide)) rfl rfl rfl (Nat.le_of_ble_eq_true rfl) (Nat.le_of_ble_eq_true rfl) rfl (A129 hn e11 (sw_bkv ?_))
    rw [← sw_sj h] at kk
    exact ga_ri qd130_28 qr130 kk
theorem qc131 : sq_c 131 = 6 := by decide +kernel
theorem qk131_36 : sw_ck 131 36 96 1 3 6 3 = true := by decide +kernel
theorem qk131_103 : sw_ck 131 103 97 0 1 6 2 = true := by decide +kernel
theorem qr131 : sq_ret 131 = some .int := by decide +kernel
theorem qk131_106 : sw_ck 131 106 105 0 0 6 2 = true := by decide +kernel
theorem qk131_122 : sw_ck 131 122 121 0 1 6 4 = true := by decide +kernel
theorem qk131_125 : sw_ck 131 125 120 0 1 6 3 = true := by decide +kernel
-- 131: SewingPilesModel.pass(I)I
def w131 (T : sw_T) (p1 : Int) : Option (Int × sw_T) :=
  (sw_pf T 221 0 0).bind fun T1 =>
  (w96 T1 p1 1 99).bind fun r4 =>
  (sw_r1 r4).bind fun _u =>
  if r4 = 0 then
    (w97 T1 1).bind fun r8 =>
    some ((r8.1, r8.2))
  else
    (w105 T1).bind fun r10 =>
    (w121 r10 4).bind fun r12 =>
    (w120 r10 p1).bind fun r14 =>
    (w121 r14 4).bind fun r16 =>
    some (((r16 - r12), r14))
theorem A131 {G : sp_G} {z n : Nat} (hn : 228 ≤ n) {T : sw_T} {K : sw_K} {p1 : Int} {res : Int × sw_T} {Q : sp_R → sp_M → Prop} (h : w131 T p1 = some res) (kk : Q (.inl (some (.int (Int32.ofInt res.1)))) (sw_M z n sw_Ft res.2 K)) : sq_go G 131 0 [some (.ref (z + 221)), some (.int (Int32.ofInt p1)), none] [] (sw_M z n sw_Ft T K) Q := by
  unfold w131 at h
  refine go_l qd131_0 rfl ?_
  refine go_s qd131_1 rfl ?_
  obtain ⟨T1, e2, h⟩ := sw_bind h
  refine ga_pfi qd131_2 qc131 qg6_28 (sw_sl hn (by decide)) rfl qi6_0 e2 ?_
  refine go_l qd131_5 rfl ?_
  refine go_s qd131_6 rfl ?_
  refine ga_k8 qd131_7 rfl ?_
  obtain ⟨r4, e3, h⟩ := sw_bind h
  refine ga_kS (as := [.int (Int32.ofInt p1), .int (Int32.ofInt 1), .int (Int32.ofInt 99)]) (rest := []) qd131_9 qk131_36 rfl rfl (Nat.le_of_ble_eq_true rfl) (Nat.le_of_ble_eq_true rfl) rfl (A96 hn e3 (sw_bkv ?_))
  obtain ⟨_u, e5, h⟩ := sw_bind h
  by_cases hb6 : r4 = 0
  · replace h := sw_ifY hb6 h
    refine ga_zneY (t := 21) qd131_12 e5 hb6 rfl ?_
    refine go_l qd131_15 rfl ?_
    refine go_s qd131_16 rfl ?_
    obtain ⟨r8, e7, h⟩ := sw_bind h
    refine ga_kv (a := 221) (as := [.int (Int32.ofInt 1)]) (rest := []) qd131_17 qk131_103 (sw_sl hn (by decide)) rfl rfl rfl (Nat.le_of_ble_eq_true rfl) (Nat.le_of_ble_eq_true rfl) rfl (A97 hn e7 (sw_bkv ?_))
    rw [← sw_sj h] at kk
    exact ga_ri qd131_20 qr131 kk
  · replace h := sw_ifN hb6 h
    refine ga_zneN (t := 21) qd131_12 e5 hb6 rfl ?_
    refine go_l qd131_21 rfl ?_
    obtain ⟨r10, e9, h⟩ := sw_bind h
    refine ga_kv (a := 221) (as := []) (rest := []) qd131_22 qk131_106 (sw_sl hn (by decide)) rfl rfl rfl (Nat.le_of_ble_eq_true rfl) (Nat.le_of_ble_eq_true rfl) rfl (A105 hn e9 (sw_bk0 ?_))
    refine go_l qd131_25 rfl ?_
    refine go_s qd131_26 rfl ?_
    obtain ⟨r12, e11, h⟩ := sw_bind h
    refine ga_kv (a := 221) (as := [.int (Int32.ofInt 4)]) (rest := []) qd131_27 qk131_122 (sw_sl hn (by decide)) rfl rfl rfl (Nat.le_of_ble_eq_true rfl) (Nat.le_of_ble_eq_true rfl) rfl (A121 hn e11 (sw_bkv ?_))
    refine go_l (L' := [some (.ref (z + 221)), some (.int (Int32.ofInt p1)), some (.int (Int32.ofInt r12))]) (st' := []) qd131_30 rfl ?_
    refine go_l qd131_31 rfl ?_
    refine go_l qd131_32 rfl ?_
    obtain ⟨r14, e13, h⟩ := sw_bind h
    refine ga_kv (a := 221) (as := [.int (Int32.ofInt p1)]) (rest := []) qd131_33 qk131_125 (sw_sl hn (by decide)) rfl rfl rfl (Nat.le_of_ble_eq_true rfl) (Nat.le_of_ble_eq_true rfl) rfl (A120 hn e13 (sw_bk0 ?_))
    refine go_l qd131_36 rfl ?_
    refine go_s qd131_37 rfl ?_
    obtain ⟨r16, e15, h⟩ := sw_bind h
    refine ga_kv (a := 221) (as := [.int (Int32.ofInt 4)]) (rest := []) qd131_38 qk131_122 (sw_sl hn (by decide)) rfl rfl rfl (Nat.le_of_ble_eq_true rfl) (Nat.le_of_ble_eq_true rfl) rfl (A121 hn e15 (sw_bkv ?_))
    refine go_l qd131_41 rfl ?_
    refine ga_isub qd131_42 ?_
    rw [← sw_sj h] at kk
    exact ga_ri qd131_43 qr131 kk
theorem qc132 : sq_c 132 = 6 := by decide +kernel
theorem qk132_36 : sw_ck 132 36 96 1 3 6 3 = true := by decide +kernel
theorem qk132_103 : sw_ck 132 103 97 0 1 6 2 = true := by decide +kernel
theorem qr132 : sq_ret 132 = some .int := by decide +kernel
theorem qk132_106 : sw_ck 132 106 105 0 0 6 2 = true := by decide +kernel
-- 132: SewingPilesModel.set(II)I
def w132_55 (T : sw_T) (l1 : Int) (l2 : Int) (s0 : Int) : Option (Int × sw_T) :=
  (sw_r1 s0).bind fun _u =>
  if s0 = 0 then
    (w97 T 2).bind fun r16 =>
    some ((r16.1, r16.2))
  else
    (w105 T).bind fun r18 =>
    (sw_ld r18 222 543 l1).bind fun v20 =>
    (sw_st r18 222 543 l1 l2).bind fun T22 =>
    some ((v20, T22))
theorem B132_55 {G : sp_G} {z n : Nat} (hn : 228 ≤ n) {T : sw_T} {K : sw_K} {l1 : Int} {l2 : Int} {s0 : Int} {res : Int × sw_T} {Q : sp_R → sp_M → Prop} (h : w132_55 T l1 l2 s0 = some res) (kk : Q (.inl (some (.int (Int32.ofInt res.1)))) (sw_M z n sw_Ft res.2 K)) : sq_go G 132 55 [some (.ref (z + 221)), some (.int (Int32.ofInt l1)), some (.int (Int32.ofInt l2)), none, none] [.int (Int32.ofInt s0)] (sw_M z n sw_Ft T K) Q := by
  unfold w132_55 at h
  refine go_l (L' := [some (.ref (z + 221)), some (.int (Int32.ofInt l1)), some (.int (Int32.ofInt l2)), some (.int (Int32.ofInt s0)), none]) (st' := []) qd132_55 rfl ?_
  refine go_l qd132_56 rfl ?_
  obtain ⟨_u, e13, h⟩ := sw_bind h
  by_cases hb14 : s0 = 0
  · replace h := sw_ifY hb14 h
    refine ga_zneY (t := 66) qd132_57 e13 hb14 rfl ?_
    refine go_l qd132_60 rfl ?_
    refine go_s qd132_61 rfl ?_
    obtain ⟨r16, e15, h⟩ := sw_bind h
    refine ga_kv (a := 221) (as := [.int (Int32.ofInt 2)]) (rest := []) qd132_62 qk132_103 (sw_sl hn (by decide)) rfl rfl rfl (Nat.le_of_ble_eq_true rfl) (Nat.le_of_ble_eq_true rfl) rfl (A97 hn e15 (sw_bkv ?_))
    rw [← sw_sj h] at kk
    exact ga_ri qd132_65 qr132 kk
  · replace h := sw_ifN hb14 h
    refine ga_zneN (t := 66) qd132_57 e13 hb14 rfl ?_
    refine go_l qd132_66 rfl ?_
    obtain ⟨r18, e17, h⟩ := sw_bind h
    refine ga_kv (a := 221) (as := []) (rest := []) qd132_67 qk132_106 (sw_sl hn (by decide)) rfl rfl rfl (Nat.le_of_ble_eq_true rfl) (Nat.le_of_ble_eq_true rfl) rfl (A105 hn e17 (sw_bk0 ?_))
    refine go_l qd132_70 rfl ?_
    refine ga_gf (v := .ref (z + 222)) qd132_71 qc132 qf6_7 (sw_sl hn (by decide)) rfl rfl ?_
    refine go_l qd132_74 rfl ?_
    obtain ⟨v20, e19, h⟩ := sw_bind h
    refine ga_iald qd132_75 (sw_sl hn (by decide)) e19 ?_
    refine go_l (L' := [some (.ref (z + 221)), some (.int (Int32.ofInt l1)), some (.int (Int32.ofInt l2)), some (.int (Int32.ofInt s0)), some (.int (Int32.ofInt v20))]) (st' := []) qd132_76 rfl ?_
    refine go_l qd132_78 rfl ?_
    refine ga_gf (v := .ref (z + 222)) qd132_79 qc132 qf6_7 (sw_sl hn (by decide)) rfl rfl ?_
    refine go_l qd132_82 rfl ?_
    refine go_l qd132_83 rfl ?_
    obtain ⟨T22, e21, h⟩ := sw_bind h
    refine ga_iast qd132_84 (sw_sl hn (by decide)) e21 ?_
    refine go_l qd132_85 rfl ?_
    rw [← sw_sj h] at kk
    exact ga_ri qd132_87 qr132 kk
def w132 (T : sw_T) (p1 : Int) (p2 : Int) : Option (Int × sw_T) :=
  (sw_pf T 221 0 0).bind fun T1 =>
  (w96 T1 p1 0 2).bind fun r4 =>
  (sw_r1 r4).bind fun _u =>
  if r4 = 0 then
    (w97 T1 1).bind fun r8 =>
    some ((r8.1, r8.2))
  else
    (sw_r1 p1).bind fun _u =>
    if p1 = 0 then
      (w96 T1 p2 2 99).bind fun r12 =>
      w132_55 T1 p1 p2 r12
    else
      (sw_r2 p1 1).bind fun _u =>
      if p1 = 1 then
        (w96 T1 p2 0 2).bind fun r26 =>
        w132_55 T1 p1 p2 r26
      else
        (w96 T1 p2 1 20).bind fun r28 =>
        w132_55 T1 p1 p2 r28
theorem A132 {G : sp_G} {z n : Nat} (hn : 228 ≤ n) {T : sw_T} {K : sw_K} {p1 : Int} {p2 : Int} {res : Int × sw_T} {Q : sp_R → sp_M → Prop} (h : w132 T p1 p2 = some res) (kk : Q (.inl (some (.int (Int32.ofInt res.1)))) (sw_M z n sw_Ft res.2 K)) : sq_go G 132 0 [some (.ref (z + 221)), some (.int (Int32.ofInt p1)), some (.int (Int32.ofInt p2)), none, none] [] (sw_M z n sw_Ft T K) Q := by
  unfold w132 at h
  refine go_l qd132_0 rfl ?_
  refine go_s qd132_1 rfl ?_
  obtain ⟨T1, e2, h⟩ := sw_bind h
  refine ga_pfi qd132_2 qc132 qg6_28 (sw_sl hn (by decide)) rfl qi6_0 e2 ?_
  refine go_l qd132_5 rfl ?_
  refine go_s qd132_6 rfl ?_
  refine go_s qd132_7 rfl ?_
  obtain ⟨r4, e3, h⟩ := sw_bind h
  refine ga_kS (as := [.int (Int32.ofInt p1), .int (Int32.ofInt 0), .int (Int32.ofInt 2)]) (rest := []) qd132_8 qk132_36 rfl rfl (Nat.le_of_ble_eq_true rfl) (Nat.le_of_ble_eq_true rfl) rfl (A96 hn e3 (sw_bkv ?_))
  obtain ⟨_u, e5, h⟩ := sw_bind h
  by_cases hb6 : r4 = 0
  · replace h := sw_ifY hb6 h
    refine ga_zneY (t := 20) qd132_11 e5 hb6 rfl ?_
    refine go_l qd132_14 rfl ?_
    refine go_s qd132_15 rfl ?_
    obtain ⟨r8, e7, h⟩ := sw_bind h
    refine ga_kv (a := 221) (as := [.int (Int32.ofInt 1)]) (rest := []) qd132_16 qk132_103 (sw_sl hn (by decide)) rfl rfl rfl (Nat.le_of_ble_eq_true rfl) (Nat.le_of_ble_eq_true rfl) rfl (A97 hn e7 (sw_bkv ?_))
    rw [← sw_sj h] at kk
    exact ga_ri qd132_19 qr132 kk
  · replace h := sw_ifN hb6 h
    refine ga_zneN (t := 20) qd132_11 e5 hb6 rfl ?_
    refine go_l qd132_20 rfl ?_
    obtain ⟨_u, e9, h⟩ := sw_bind h
    by_cases hb10 : p1 = 0
    · replace h := sw_ifY hb10 h
      refine ga_zneY (t := 34) qd132_21 e9 hb10 rfl ?_
      refine go_l qd132_24 rfl ?_
      refine go_s qd132_25 rfl ?_
      refine ga_k8 qd132_26 rfl ?_
      obtain ⟨r12, e11, h⟩ := sw_bind h
      refine ga_kS (as := [.int (Int32.ofInt p2), .int (Int32.ofInt 2), .int (Int32.ofInt 99)]) (rest := []) qd132_28 qk132_36 rfl rfl (Nat.le_of_ble_eq_true rfl) (Nat.le_of_ble_eq_true rfl) rfl (A96 hn e11 (sw_bkv ?_))
      refine ga_jp (t := 55) qd132_31 rfl ?_
      exact sq_weak (L := [some (.ref (z + 221)), some (.int (Int32.ofInt p1)), some (.int (Int32.ofInt p2)), none, none]) ⟨rfl, rfl, rfl, trivial⟩ (B132_55 hn h kk)
    · replace h := sw_ifN hb10 h
      refine ga_zneN (t := 34) qd132_21 e9 hb10 rfl ?_
      refine go_l qd132_34 rfl ?_
      refine go_s qd132_35 rfl ?_
      obtain ⟨_u, e23, h⟩ := sw_bind h
      by_cases hb24 : p1 = 1
      · replace h := sw_ifY hb24 h
        refine ga_cneY (t := 48) qd132_36 e23 hb24 rfl ?_
        refine go_l qd132_39 rfl ?_
        refine go_s qd132_40 rfl ?_
        refine go_s qd132_41 rfl ?_
        obtain ⟨r26, e25, h⟩ := sw_bind h
        refine ga_kS (as := [.int (Int32.ofInt p2), .int (Int32.ofInt 0), .int (Int32.ofInt 2)]) (rest := []) qd132_42 qk132_36 rfl rfl (Nat.le_of_ble_eq_true rfl) (Nat.le_of_ble_eq_true rfl) rfl (A96 hn e25 (sw_bkv ?_))
        refine ga_jp (t := 55) qd132_45 rfl ?_
        exact sq_weak (L := [some (.ref (z + 221)), some (.int (Int32.ofInt p1)), some (.int (Int32.ofInt p2)), none, none]) ⟨rfl, rfl, rfl, trivial⟩ (B132_55 hn h kk)
      · replace h := sw_ifN hb24 h
        refine ga_cneN (t := 48) qd132_36 e23 hb24 rfl ?_
        refine go_l qd132_48 rfl ?_
        refine go_s qd132_49 rfl ?_
        refine ga_k8 qd132_50 rfl ?_
        obtain ⟨r28, e27, h⟩ := sw_bind h
        refine ga_kS (as := [.int (Int32.ofInt p2), .int (Int32.ofInt 1), .int (Int32.ofInt 20)]) (rest := []) qd132_52 qk132_36 rfl rfl (Nat.le_of_ble_eq_true rfl) (Nat.le_of_ble_eq_true rfl) rfl (A96 hn e27 (sw_bkv ?_))
        exact sq_weak (L := [some (.ref (z + 221)), some (.int (Int32.ofInt p1)), some (.int (Int32.ofInt p2)), none, none]) ⟨rfl, rfl, rfl, trivial⟩ (B132_55 hn h kk)
theorem qc133 : sq_c 133 = 6 := by decide +kernel
theorem qk133_36 : sw_ck 133 36 96 1 3 6 3 = true := by decide +kernel
theorem qk133_103 : sw_ck 133 103 97 0 1 6 2 = true := by decide +kernel
theorem qr133 : sq_ret 133 = some .int := by decide +kernel
theorem qf6_128 : (sp_fd sp_flT 6 128).or (sp_fd sp_fnT 6 128) = some (6, 8) := by decide +kernel
theorem qf6_22 : (sp_fd sp_flT 6 22).or (sp_fd sp_fnT 6 22) = some (6, 7) := by decide +kernel
theorem qg6_128 : sp_fd sp_flT 6 128 = some (6, 8) := by decide +kernel
-- 133: SewingPilesModel.append(I)I
def w133 (T : sw_T) (p1 : Int) : Option (Int × sw_T) :=
  (sw_pf T 221 0 0).bind fun T1 =>
  (w96 T1 p1 33 126).bind fun r4 =>
  (sw_r1 r4).bind fun _u =>
  if r4 = 0 then
    (w97 T1 1).bind fun r8 =>
    some ((r8.1, r8.2))
  else
    (sw_r2 (T1 221 8) 60).bind fun _u =>
    if (T1 221 8) = 60 then
      (w97 T1 2).bind fun r12 =>
      some ((r12.1, r12.2))
    else
      (sw_st T1 226 60 (T1 221 8) p1).bind fun T14 =>
      (sw_pf T14 221 8 ((T14 221 8) + 1)).bind fun T15 =>
      some (((T15 221 8), T15))
theorem A133 {G : sp_G} {z n : Nat} (hn : 228 ≤ n) {T : sw_T} {K : sw_K} {p1 : Int} {res : Int × sw_T} {Q : sp_R → sp_M → Prop} (h : w133 T p1 = some res) (kk : Q (.inl (some (.int (Int32.ofInt res.1)))) (sw_M z n sw_Ft res.2 K)) : sq_go G 133 0 [some (.ref (z + 221)), some (.int (Int32.ofInt p1))] [] (sw_M z n sw_Ft T K) Q := by
  unfold w133 at h
  refine go_l qd133_0 rfl ?_
  refine go_s qd133_1 rfl ?_
  obtain ⟨T1, e2, h⟩ := sw_bind h
  refine ga_pfi qd133_2 qc133 qg6_28 (sw_sl hn (by decide)) rfl qi6_0 e2 ?_
  refine go_l qd133_5 rfl ?_
  refine ga_k8 qd133_6 rfl ?_
  refine ga_k8 qd133_8 rfl ?_
  obtain ⟨r4, e3, h⟩ := sw_bind h
  refine ga_kS (as := [.int (Int32.ofInt p1), .int (Int32.ofInt 33), .int (Int32.ofInt 126)]) (rest := []) qd133_10 qk133_36 rfl rfl (Nat.le_of_ble_eq_true rfl) (Nat.le_of_ble_eq_true rfl) rfl (A96 hn e3 (sw_bkv ?_))
  obtain ⟨_u, e5, h⟩ := sw_bind h
  by_cases hb6 : r4 = 0
  · replace h := sw_ifY hb6 h
    refine ga_zneY (t := 22) qd133_13 e5 hb6 rfl ?_
    refine go_l qd133_16 rfl ?_
    refine go_s qd133_17 rfl ?_
    obtain ⟨r8, e7, h⟩ := sw_bind h
    refine ga_kv (a := 221) (as := [.int (Int32.ofInt 1)]) (rest := []) qd133_18 qk133_103 (sw_sl hn (by decide)) rfl rfl rfl (Nat.le_of_ble_eq_true rfl) (Nat.le_of_ble_eq_true rfl) rfl (A97 hn e7 (sw_bkv ?_))
    rw [← sw_sj h] at kk
    exact ga_ri qd133_21 qr133 kk
  · replace h := sw_ifN hb6 h
    refine ga_zneN (t := 22) qd133_13 e5 hb6 rfl ?_
    refine go_l qd133_22 rfl ?_
    refine ga_gf (v := .int (Int32.ofInt (T1 221 8))) qd133_23 qc133 qf6_128 (sw_sl hn (by decide)) rfl rfl ?_
    refine ga_k8 qd133_26 rfl ?_
    obtain ⟨_u, e9, h⟩ := sw_bind h
    by_cases hb10 : (T1 221 8) = 60
    · replace h := sw_ifY hb10 h
      refine ga_cneY (t := 37) qd133_28 e9 hb10 rfl ?_
      refine go_l qd133_31 rfl ?_
      refine go_s qd133_32 rfl ?_
      obtain ⟨r12, e11, h⟩ := sw_bind h
      refine ga_kv (a := 221) (as := [.int (Int32.ofInt 2)]) (rest := []) qd133_33 qk133_103 (sw_sl hn (by decide)) rfl rfl rfl (Nat.le_of_ble_eq_true rfl) (Nat.le_of_ble_eq_true rfl) rfl (A97 hn e11 (sw_bkv ?_))
      rw [← sw_sj h] at kk
      exact ga_ri qd133_36 qr133 kk
    · replace h := sw_ifN hb10 h
      refine ga_cneN (t := 37) qd133_28 e9 hb10 rfl ?_
      refine go_l qd133_37 rfl ?_
      refine ga_gf (v := .ref (z + 226)) qd133_38 qc133 qf6_22 (sw_sl hn (by decide)) rfl rfl ?_
      refine go_l qd133_41 rfl ?_
      refine ga_gf (v := .int (Int32.ofInt (T1 221 8))) qd133_42 qc133 qf6_128 (sw_sl hn (by decide)) rfl rfl ?_
      refine go_l qd133_45 rfl ?_
      obtain ⟨T14, e13, h⟩ := sw_bind h
      refine ga_iast qd133_46 (sw_sl hn (by decide)) e13 ?_
      refine go_l qd133_47 rfl ?_
      refine go_s qd133_48 rfl ?_
      refine ga_gf (v := .int (Int32.ofInt (T14 221 8))) qd133_49 qc133 qf6_128 (sw_sl hn (by decide)) rfl rfl ?_
      refine go_s qd133_52 rfl ?_
      refine ga_iadd qd133_53 ?_
      obtain ⟨T15, e16, h⟩ := sw_bind h
      refine ga_pfi qd133_54 qc133 qg6_128 (sw_sl hn (by decide)) rfl qi6_8 e16 ?_
      refine go_l qd133_57 rfl ?_
      refine ga_gf (v := .int (Int32.ofInt (T15 221 8))) qd133_58 qc133 qf6_128 (sw_sl hn (by decide)) rfl rfl ?_
      rw [← sw_sj h] at kk
      exact ga_ri qd133_61 qr133 kk
theorem qc134 : sq_c 134 = 6 := by decide +kernel
theorem qr134 : sq_ret 134 = some .int := by decide +kernel
-- 134: SewingPilesModel.clearBuffer()I
def w134 (T : sw_T) : Option (Int × sw_T) :=
  (sw_pf T 221 0 0).bind fun T1 =>
  (sw_pf T1 221 8 0).bind fun T3 =>
  some (((T1 221 8), T3))
theorem A134 {G : sp_G} {z n : Nat} (hn : 228 ≤ n) {T : sw_T} {K : sw_K} {res : Int × sw_T} {Q : sp_R → sp_M → Prop} (h : w134 T = some res) (kk : Q (.inl (some (.int (Int32.ofInt res.1)))) (sw_M z n sw_Ft res.2 K)) : sq_go G 134 0 [some (.ref (z + 221)), none] [] (sw_M z n sw_Ft T K) Q := by
  unfold w134 at h
  refine go_l qd134_0 rfl ?_
  refine go_s qd134_1 rfl ?_
  obtain ⟨T1, e2, h⟩ := sw_bind h
  refine ga_pfi qd134_2 qc134 qg6_28 (sw_sl hn (by decide)) rfl qi6_0 e2 ?_
  refine go_l qd134_5 rfl ?_
  refine ga_gf (v := .int (Int32.ofInt (T1 221 8))) qd134_6 qc134 qf6_128 (sw_sl hn (by decide)) rfl rfl ?_
  refine go_l (L' := [some (.ref (z + 221)), some (.int (Int32.ofInt (T1 221 8)))]) (st' := []) qd134_9 rfl ?_
  refine go_l qd134_10 rfl ?_
  refine go_s qd134_11 rfl ?_
  obtain ⟨T3, e4, h⟩ := sw_bind h
  refine ga_pfi qd134_12 qc134 qg6_128 (sw_sl hn (by decide)) rfl qi6_8 e4 ?_
  refine go_l qd134_15 rfl ?_
  rw [← sw_sj h] at kk
  exact ga_ri qd134_16 qr134 kk
theorem qf6_131 : (sp_fd sp_flT 6 131).or (sp_fd sp_fnT 6 131) = some (6, 10) := by decide +kernel
theorem qc135 : sq_c 135 = 6 := by decide +kernel
theorem qr135 : sq_ret 135 = some .int := by decide +kernel
-- 135: SewingPilesModel.sign()I
def w135 (T : sw_T) : Option (Int) :=
  (sw_r2 (T 221 10) (T 221 8)).bind fun _u =>
  if (T 221 10) < (T 221 8) then
    (sw_ld T 226 60 (T 221 10)).bind fun v4 =>
    some (v4)
  else
    some (0)
theorem A135 {G : sp_G} {z n : Nat} (hn : 228 ≤ n) {T : sw_T} {K : sw_K} {res : Int} {Q : sp_R → sp_M → Prop} (h : w135 T = some res) (kk : Q (.inl (some (.int (Int32.ofInt res)))) (sw_M z n sw_Ft T K)) : sq_go G 135 0 [some (.ref (z + 221))] [] (sw_M z n sw_Ft T K) Q := by
  unfold w135 at h
  refine go_l qd135_0 rfl ?_
  refine ga_gf (v := .int (Int32.ofInt (T 221 10))) qd135_1 qc135 qf6_131 (sw_sl hn (by decide)) rfl rfl ?_
  refine go_l qd135_4 rfl ?_
  refine ga_gf (v := .int (Int32.ofInt (T 221 8))) qd135_5 qc135 qf6_128 (sw_sl hn (by decide)) rfl rfl ?_
  obtain ⟨_u, e1, h⟩ := sw_bind h
  by_cases hb2 : (T 221 10) < (T 221 8)
  · replace h := sw_ifY hb2 h
    refine ga_cgeY (t := 23) qd135_8 e1 hb2 rfl ?_
    refine go_l qd135_11 rfl ?_
    refine ga_gf (v := .ref (z + 226)) qd135_12 qc135 qf6_22 (sw_sl hn (by decide)) rfl rfl ?_
    refine go_l qd135_15 rfl ?_
    refine ga_gf (v := .int (Int32.ofInt (T 221 10))) qd135_16 qc135 qf6_131 (sw_sl hn (by decide)) rfl rfl ?_
    obtain ⟨v4, e3, h⟩ := sw_bind h
    refine ga_iald qd135_19 (sw_sl hn (by decide)) e3 ?_
    refine ga_jp (t := 24) qd135_20 rfl ?_
    rw [← sw_sj h] at kk
    exact ga_ri qd135_24 qr135 kk
  · replace h := sw_ifN hb2 h
    refine ga_cgeN (t := 23) qd135_8 e1 hb2 rfl ?_
    refine go_s qd135_23 rfl ?_
    rw [← sw_sj h] at kk
    exact ga_ri qd135_24 qr135 kk
theorem qf6_134 : (sp_fd sp_flT 6 134).or (sp_fd sp_fnT 6 134) = some (6, 11) := by decide +kernel
theorem qc136 : sq_c 136 = 6 := by decide +kernel
theorem qg6_134 : sp_fd sp_flT 6 134 = some (6, 11) := by decide +kernel
theorem qk136_137 : sw_ck 136 137 135 0 0 6 1 = true := by decide +kernel
theorem qg6_131 : sp_fd sp_flT 6 131 = some (6, 10) := by decide +kernel
theorem qr136 : sq_ret 136 = some .int := by decide +kernel
theorem qk136_36 : sw_ck 136 36 96 1 3 6 3 = true := by decide +kernel
-- 136: SewingPilesModel.digit(II)I
def w136_25 (T : sw_T) (s1 : Int) : Option (Int × sw_T) :=
  (sw_pb T 221 11 s1).bind fun T3 =>
  (w135 T3).bind fun r6 =>
  (sw_r1 (T3 221 11)).bind fun _u =>
  if (T3 221 11) = 0 then
    (sw_pf T3 221 10 ((T3 221 10) + 0)).bind fun T9 =>
    some (((r6 - 48), T9))
  else
    (sw_pf T3 221 10 ((T3 221 10) + 1)).bind fun T11 =>
    some (((r6 - 48), T11))
theorem B136_25 {G : sp_G} {z n : Nat} (hn : 228 ≤ n) {T : sw_T} {K : sw_K} {s1 : Int} {res : Int × sw_T} {Q : sp_R → sp_M → Prop} (h : w136_25 T s1 = some res) (kk : Q (.inl (some (.int (Int32.ofInt res.1)))) (sw_M z n sw_Ft res.2 K)) : sq_go G 136 25 [some (.ref (z + 221)), none, none, none] [.int (Int32.ofInt s1), .ref (z + 221)] (sw_M z n sw_Ft T K) Q := by
  unfold w136_25 at h
  obtain ⟨T3, e4, h⟩ := sw_bind h
  refine ga_pfb qd136_25 qc136 qg6_134 (sw_sl hn (by decide)) rfl qi6_11 e4 ?_
  refine go_l qd136_28 rfl ?_
  obtain ⟨r6, e5, h⟩ := sw_bind h
  refine ga_kv (a := 221) (as := []) (rest := []) qd136_29 qk136_137 (sw_sl hn (by decide)) rfl rfl rfl (Nat.le_of_ble_eq_true rfl) (Nat.le_of_ble_eq_true rfl) rfl (A135 hn e5 (sw_bkv ?_))
  refine ga_k8 qd136_32 rfl ?_
  refine ga_isub qd136_34 ?_
  refine go_l (L' := [some (.ref (z + 221)), none, none, some (.int (Int32.ofInt (r6 - 48)))]) (st' := []) qd136_35 rfl ?_
  refine go_l qd136_36 rfl ?_
  refine go_s qd136_37 rfl ?_
  refine ga_gf (v := .int (Int32.ofInt (T3 221 10))) qd136_38 qc136 qf6_131 (sw_sl hn (by decide)) rfl rfl ?_
  refine go_l qd136_41 rfl ?_
  refine ga_gf (v := .int (Int32.ofInt (T3 221 11))) qd136_42 qc136 qf6_134 (sw_sl hn (by decide)) rfl rfl ?_
  obtain ⟨_u, e7, h⟩ := sw_bind h
  by_cases hb8 : (T3 221 11) = 0
  · replace h := sw_ifY hb8 h
    refine ga_zeqY (t := 52) qd136_45 e7 hb8 rfl ?_
    refine go_s qd136_52 rfl ?_
    refine ga_iadd qd136_53 ?_
    obtain ⟨T9, e10, h⟩ := sw_bind h
    refine ga_pfi qd136_54 qc136 qg6_131 (sw_sl hn (by decide)) rfl qi6_10 e10 ?_
    refine go_l qd136_57 rfl ?_
    rw [← sw_sj h] at kk
    exact ga_ri qd136_58 qr136 kk
  · replace h := sw_ifN hb8 h
    refine ga_zeqN (t := 52) qd136_45 e7 hb8 rfl ?_
    refine go_s qd136_48 rfl ?_
    refine ga_jp (t := 53) qd136_49 rfl ?_
    refine ga_iadd qd136_53 ?_
    obtain ⟨T11, e12, h⟩ := sw_bind h
    refine ga_pfi qd136_54 qc136 qg6_131 (sw_sl hn (by decide)) rfl qi6_10 e12 ?_
    refine go_l qd136_57 rfl ?_
    rw [← sw_sj h] at kk
    exact ga_ri qd136_58 qr136 kk
def w136_24 (T : sw_T) : Option (Int × sw_T) :=
  w136_25 T 0
theorem B136_24 {G : sp_G} {z n : Nat} (hn : 228 ≤ n) {T : sw_T} {K : sw_K} {res : Int × sw_T} {Q : sp_R → sp_M → Prop} (h : w136_24 T = some res) (kk : Q (.inl (some (.int (Int32.ofInt res.1)))) (sw_M z n sw_Ft res.2 K)) : sq_go G 136 24 [some (.ref (z + 221)), none, none, none] [.ref (z + 221)] (sw_M z n sw_Ft T K) Q := by
  unfold w136_24 at h
  refine go_s qd136_24 rfl ?_
  exact sq_weak (L := [some (.ref (z + 221)), none, none, none]) ⟨rfl, trivial⟩ (B136_25 hn h kk)
def w136 (T : sw_T) (p1 : Int) (p2 : Int) : Option (Int × sw_T) :=
  (sw_r1 (T 221 11)).bind fun _u =>
  if (T 221 11) = 0 then
    w136_24 T
  else
    (w135 T).bind fun r14 =>
    (w96 T r14 p1 p2).bind fun r16 =>
    (sw_r1 r16).bind fun _u =>
    if r16 = 0 then
      w136_24 T
    else
      w136_25 T 1
theorem A136 {G : sp_G} {z n : Nat} (hn : 228 ≤ n) {T : sw_T} {K : sw_K} {p1 : Int} {p2 : Int} {res : Int × sw_T} {Q : sp_R → sp_M → Prop} (h : w136 T p1 p2 = some res) (kk : Q (.inl (some (.int (Int32.ofInt res.1)))) (sw_M z n sw_Ft res.2 K)) : sq_go G 136 0 [some (.ref (z + 221)), some (.int (Int32.ofInt p1)), some (.int (Int32.ofInt p2)), none] [] (sw_M z n sw_Ft T K) Q := by
  unfold w136 at h
  refine go_l qd136_0 rfl ?_
  refine go_l qd136_1 rfl ?_
  refine ga_gf (v := .int (Int32.ofInt (T 221 11))) qd136_2 qc136 qf6_134 (sw_sl hn (by decide)) rfl rfl ?_
  obtain ⟨_u, e1, h⟩ := sw_bind h
  by_cases hb2 : (T 221 11) = 0
  · replace h := sw_ifY hb2 h
    refine ga_zeqY (t := 24) qd136_5 e1 hb2 rfl ?_
    exact sq_weak (L := [some (.ref (z + 221)), none, none, none]) ⟨rfl, trivial⟩ (B136_24 hn h kk)
  · replace h := sw_ifN hb2 h
    refine ga_zeqN (t := 24) qd136_5 e1 hb2 rfl ?_
    refine go_l qd136_8 rfl ?_
    obtain ⟨r14, e13, h⟩ := sw_bind h
    refine ga_kv (a := 221) (as := []) (rest := [.ref (z + 221)]) qd136_9 qk136_137 (sw_sl hn (by decide)) rfl rfl rfl (Nat.le_of_ble_eq_true rfl) (Nat.le_of_ble_eq_true rfl) rfl (A135 hn e13 (sw_bkv ?_))
    refine go_l qd136_12 rfl ?_
    refine go_l qd136_13 rfl ?_
    obtain ⟨r16, e15, h⟩ := sw_bind h
    refine ga_kS (as := [.int (Int32.ofInt r14), .int (Int32.ofInt p1), .int (Int32.ofInt p2)]) (rest := [.ref (z + 221)]) qd136_14 qk136_36 rfl rfl (Nat.le_of_ble_eq_true rfl) (Nat.le_of_ble_eq_true rfl) rfl (A96 hn e15 (sw_bkv ?_))
    obtain ⟨_u, e17, h⟩ := sw_bind h
    by_cases hb18 : r16 = 0
    · replace h := sw_ifY hb18 h
      refine ga_zeqY (t := 24) qd136_17 e17 hb18 rfl ?_
      exact sq_weak (L := [some (.ref (z + 221)), none, none, none]) ⟨rfl, trivial⟩ (B136_24 hn h kk)
    · replace h := sw_ifN hb18 h
      refine ga_zeqN (t := 24) qd136_17 e17 hb18 rfl ?_
      refine go_s qd136_20 rfl ?_
      refine ga_jp (t := 25) qd136_21 rfl ?_
      exact sq_weak (L := [some (.ref (z + 221)), none, none, none]) ⟨rfl, trivial⟩ (B136_25 hn h kk)
theorem qk137_141 : sw_ck 137 141 136 0 2 6 4 = true := by decide +kernel
theorem qc137 : sq_c 137 = 6 := by decide +kernel
theorem qr137 : sq_ret 137 = some .int := by decide +kernel
theorem qk137_137 : sw_ck 137 137 135 0 0 6 1 = true := by decide +kernel
theorem qk137_36 : sw_ck 137 36 96 1 3 6 3 = true := by decide +kernel
-- 137: SewingPilesModel.number()I
def w137 (T : sw_T) : Option (Int × sw_T) :=
  (w136 T 49 57).bind fun r2 =>
  (sw_r1 (r2.2 221 11)).bind fun _u =>
  if (r2.2 221 11) = 0 then
    some ((r2.1, r2.2))
  else
    (w135 r2.2).bind fun r6 =>
    (w96 r2.2 r6 48 57).bind fun r8 =>
    (sw_r1 r8).bind fun _u =>
    if r8 = 0 then
      some ((r2.1, r2.2))
    else
      (w136 r2.2 48 57).bind fun r12 =>
      some ((((10 * r2.1) + r12.1), r12.2))
theorem A137 {G : sp_G} {z n : Nat} (hn : 228 ≤ n) {T : sw_T} {K : sw_K} {res : Int × sw_T} {Q : sp_R → sp_M → Prop} (h : w137 T = some res) (kk : Q (.inl (some (.int (Int32.ofInt res.1)))) (sw_M z n sw_Ft res.2 K)) : sq_go G 137 0 [some (.ref (z + 221)), none] [] (sw_M z n sw_Ft T K) Q := by
  unfold w137 at h
  refine go_l qd137_0 rfl ?_
  refine ga_k8 qd137_1 rfl ?_
  refine ga_k8 qd137_3 rfl ?_
  obtain ⟨r2, e1, h⟩ := sw_bind h
  refine ga_kv (a := 221) (as := [.int (Int32.ofInt 49), .int (Int32.ofInt 57)]) (rest := []) qd137_5 qk137_141 (sw_sl hn (by decide)) rfl rfl rfl (Nat.le_of_ble_eq_true rfl) (Nat.le_of_ble_eq_true rfl) rfl (A136 hn e1 (sw_bkv ?_))
  refine go_l (L' := [some (.ref (z + 221)), some (.int (Int32.ofInt r2.1))]) (st' := []) qd137_8 rfl ?_
  refine go_l qd137_9 rfl ?_
  refine ga_gf (v := .int (Int32.ofInt (r2.2 221 11))) qd137_10 qc137 qf6_134 (sw_sl hn (by decide)) rfl rfl ?_
  obtain ⟨_u, e3, h⟩ := sw_bind h
  by_cases hb4 : (r2.2 221 11) = 0
  · replace h := sw_ifY hb4 h
    refine ga_zeqY (t := 44) qd137_13 e3 hb4 rfl ?_
    refine go_l qd137_44 rfl ?_
    rw [← sw_sj h] at kk
    exact ga_ri qd137_45 qr137 kk
  · replace h := sw_ifN hb4 h
    refine ga_zeqN (t := 44) qd137_13 e3 hb4 rfl ?_
    refine go_l qd137_16 rfl ?_
    obtain ⟨r6, e5, h⟩ := sw_bind h
    refine ga_kv (a := 221) (as := []) (rest := []) qd137_17 qk137_137 (sw_sl hn (by decide)) rfl rfl rfl (Nat.le_of_ble_eq_true rfl) (Nat.le_of_ble_eq_true rfl) rfl (A135 hn e5 (sw_bkv ?_))
    refine ga_k8 qd137_20 rfl ?_
    refine ga_k8 qd137_22 rfl ?_
    obtain ⟨r8, e7, h⟩ := sw_bind h
    refine ga_kS (as := [.int (Int32.ofInt r6), .int (Int32.ofInt 48), .int (Int32.ofInt 57)]) (rest := []) qd137_24 qk137_36 rfl rfl (Nat.le_of_ble_eq_true rfl) (Nat.le_of_ble_eq_true rfl) rfl (A96 hn e7 (sw_bkv ?_))
    obtain ⟨_u, e9, h⟩ := sw_bind h
    by_cases hb10 : r8 = 0
    · replace h := sw_ifY hb10 h
      refine ga_zeqY (t := 44) qd137_27 e9 hb10 rfl ?_
      refine go_l qd137_44 rfl ?_
      rw [← sw_sj h] at kk
      exact ga_ri qd137_45 qr137 kk
    · replace h := sw_ifN hb10 h
      refine ga_zeqN (t := 44) qd137_27 e9 hb10 rfl ?_
      refine ga_k8 qd137_30 rfl ?_
      refine go_l qd137_32 rfl ?_
      refine ga_imul qd137_33 ?_
      refine go_l qd137_34 rfl ?_
      refine ga_k8 qd137_35 rfl ?_
      refine ga_k8 qd137_37 rfl ?_
      obtain ⟨r12, e11, h⟩ := sw_bind h
      refine ga_kv (a := 221) (as := [.int (Int32.ofInt 48), .int (Int32.ofInt 57)]) (rest := [.int (Int32.ofInt (10 * r2.1))]) qd137_39 qk137_141 (sw_sl hn (by decide)) rfl rfl rfl (Nat.le_of_ble_eq_true rfl) (Nat.le_of_ble_eq_true rfl) rfl (A136 hn e11 (sw_bkv ?_))
      refine ga_iadd qd137_42 ?_
      refine go_l (L' := [some (.ref (z + 221)), some (.int (Int32.ofInt ((10 * r2.1) + r12.1)))]) (st' := []) qd137_43 rfl ?_
      refine go_l qd137_44 rfl ?_
      rw [← sw_sj h] at kk
      exact ga_ri qd137_45 qr137 kk
theorem qf6_144 : (sp_fd sp_flT 6 144).or (sp_fd sp_fnT 6 144) = some (6, 13) := by decide +kernel
theorem qc138 : sq_c 138 = 6 := by decide +kernel
theorem qk138_137 : sw_ck 138 137 135 0 0 6 1 = true := by decide +kernel
theorem qf6_25 : (sp_fd sp_flT 6 25).or (sp_fd sp_fnT 6 25) = some (6, 12) := by decide +kernel
theorem qk138_141 : sw_ck 138 141 136 0 2 6 4 = true := by decide +kernel
theorem qg6_144 : sp_fd sp_flT 6 144 = some (6, 13) := by decide +kernel
theorem qr138 : sq_ret 138 = none := by decide +kernel
theorem qk138_147 : sw_ck 138 147 137 0 0 6 2 = true := by decide +kernel
-- 138: SewingPilesModel.readsOrder()V
def w138_151 (T : sw_T) (l1 : Int) (l2 : Int) : Option (sw_T) :=
  (sw_r2 l2 118).bind fun _u =>
  if l2 = 118 then
    (w136 T 49 57).bind fun r30 =>
    (sw_st r30.2 227 100 (l1 + 2) r30.1).bind fun T32 =>
    (sw_r1 (T32 221 11)).bind fun _u =>
    if (T32 221 11) = 0 then
      (sw_pf T32 221 13 ((T32 221 13) + 0)).bind fun T35 =>
      some (T35)
    else
      (sw_pf T32 221 13 ((T32 221 13) + 1)).bind fun T37 =>
      some (T37)
  else
    (sw_r2 l2 119).bind fun _u =>
    if l2 = 119 then
      (sw_st T 227 100 (l1 + 2) 0).bind fun T42 =>
      (sw_r1 (T42 221 11)).bind fun _u =>
      if (T42 221 11) = 0 then
        (sw_pf T42 221 13 ((T42 221 13) + 0)).bind fun T45 =>
        some (T45)
      else
        (sw_pf T42 221 13 ((T42 221 13) + 1)).bind fun T47 =>
        some (T47)
    else
      (w137 T).bind fun r50 =>
      (sw_st r50.2 227 100 (l1 + 2) r50.1).bind fun T52 =>
      (sw_r1 (T52 221 11)).bind fun _u =>
      if (T52 221 11) = 0 then
        (sw_pf T52 221 13 ((T52 221 13) + 0)).bind fun T55 =>
        some (T55)
      else
        (sw_pf T52 221 13 ((T52 221 13) + 1)).bind fun T57 =>
        some (T57)
theorem B138_151 {G : sp_G} {z n : Nat} (hn : 228 ≤ n) {T : sw_T} {K : sw_K} {l1 : Int} {l2 : Int} {res : sw_T} {Q : sp_R → sp_M → Prop} (h : w138_151 T l1 l2 = some res) (kk : Q (.inl none) (sw_M z n sw_Ft res K)) : sq_go G 138 151 [some (.ref (z + 221)), some (.int (Int32.ofInt l1)), some (.int (Int32.ofInt l2))] [] (sw_M z n sw_Ft T K) Q := by
  unfold w138_151 at h
  refine go_l qd138_151 rfl ?_
  refine ga_gf (v := .ref (z + 227)) qd138_152 qc138 qf6_25 (sw_sl hn (by decide)) rfl rfl ?_
  refine go_l qd138_155 rfl ?_
  refine go_s qd138_156 rfl ?_
  refine ga_iadd qd138_157 ?_
  refine go_l qd138_158 rfl ?_
  refine ga_k8 qd138_159 rfl ?_
  obtain ⟨_u, e27, h⟩ := sw_bind h
  by_cases hb28 : l2 = 118
  · replace h := sw_ifY hb28 h
    refine ga_cneY (t := 175) qd138_161 e27 hb28 rfl ?_
    refine go_l qd138_164 rfl ?_
    refine ga_k8 qd138_165 rfl ?_
    refine ga_k8 qd138_167 rfl ?_
    obtain ⟨r30, e29, h⟩ := sw_bind h
    refine ga_kv (a := 221) (as := [.int (Int32.ofInt 49), .int (Int32.ofInt 57)]) (rest := [.int (Int32.ofInt (l1 + 2)), .ref (z + 227)]) qd138_169 qk138_141 (sw_sl hn (by decide)) rfl rfl rfl (Nat.le_of_ble_eq_true rfl) (Nat.le_of_ble_eq_true rfl) rfl (A136 hn e29 (sw_bkv ?_))
    refine ga_jp (t := 189) qd138_172 rfl ?_
    obtain ⟨T32, e31, h⟩ := sw_bind h
    refine ga_iast qd138_189 (sw_sl hn (by decide)) e31 ?_
    refine go_l qd138_190 rfl ?_
    refine go_s qd138_191 rfl ?_
    refine ga_gf (v := .int (Int32.ofInt (T32 221 13))) qd138_192 qc138 qf6_144 (sw_sl hn (by decide)) rfl rfl ?_
    refine go_l qd138_195 rfl ?_
    refine ga_gf (v := .int (Int32.ofInt (T32 221 11))) qd138_196 qc138 qf6_134 (sw_sl hn (by decide)) rfl rfl ?_
    obtain ⟨_u, e33, h⟩ := sw_bind h
    by_cases hb34 : (T32 221 11) = 0
    · replace h := sw_ifY hb34 h
      refine ga_zeqY (t := 206) qd138_199 e33 hb34 rfl ?_
      refine go_s qd138_206 rfl ?_
      refine ga_iadd qd138_207 ?_
      obtain ⟨T35, e36, h⟩ := sw_bind h
      refine ga_pfi qd138_208 qc138 qg6_144 (sw_sl hn (by decide)) rfl qi6_13 e36 ?_
      rw [← sw_sj h] at kk
      exact ga_rv qd138_211 qr138 kk
    · replace h := sw_ifN hb34 h
      refine ga_zeqN (t := 206) qd138_199 e33 hb34 rfl ?_
      refine go_s qd138_202 rfl ?_
      refine ga_jp (t := 207) qd138_203 rfl ?_
      refine ga_iadd qd138_207 ?_
      obtain ⟨T37, e38, h⟩ := sw_bind h
      refine ga_pfi qd138_208 qc138 qg6_144 (sw_sl hn (by decide)) rfl qi6_13 e38 ?_
      rw [← sw_sj h] at kk
      exact ga_rv qd138_211 qr138 kk
  · replace h := sw_ifN hb28 h
    refine ga_cneN (t := 175) qd138_161 e27 hb28 rfl ?_
    refine go_l qd138_175 rfl ?_
    refine ga_k8 qd138_176 rfl ?_
    obtain ⟨_u, e39, h⟩ := sw_bind h
    by_cases hb40 : l2 = 119
    · replace h := sw_ifY hb40 h
      refine ga_cneY (t := 185) qd138_178 e39 hb40 rfl ?_
      refine go_s qd138_181 rfl ?_
      refine ga_jp (t := 189) qd138_182 rfl ?_
      obtain ⟨T42, e41, h⟩ := sw_bind h
      refine ga_iast qd138_189 (sw_sl hn (by decide)) e41 ?_
      refine go_l qd138_190 rfl ?_
      refine go_s qd138_191 rfl ?_
      refine ga_gf (v := .int (Int32.ofInt (T42 221 13))) qd138_192 qc138 qf6_144 (sw_sl hn (by decide)) rfl rfl ?_
      refine go_l qd138_195 rfl ?_
      refine ga_gf (v := .int (Int32.ofInt (T42 221 11))) qd138_196 qc138 qf6_134 (sw_sl hn (by decide)) rfl rfl ?_
      obtain ⟨_u, e43, h⟩ := sw_bind h
      by_cases hb44 : (T42 221 11) = 0
      · replace h := sw_ifY hb44 h
        refine ga_zeqY (t := 206) qd138_199 e43 hb44 rfl ?_
        refine go_s qd138_206 rfl ?_
        refine ga_iadd qd138_207 ?_
        obtain ⟨T45, e46, h⟩ := sw_bind h
        refine ga_pfi qd138_208 qc138 qg6_144 (sw_sl hn (by decide)) rfl qi6_13 e46 ?_
        rw [← sw_sj h] at kk
        exact ga_rv qd138_211 qr138 kk
      · replace h := sw_ifN hb44 h
        refine ga_zeqN (t := 206) qd138_199 e43 hb44 rfl ?_
        refine go_s qd138_202 rfl ?_
        refine ga_jp (t := 207) qd138_203 rfl ?_
        refine ga_iadd qd138_207 ?_
        obtain ⟨T47, e48, h⟩ := sw_bind h
        refine ga_pfi qd138_208 qc138 qg6_144 (sw_sl hn (by decide)) rfl qi6_13 e48 ?_
        rw [← sw_sj h] at kk
        exact ga_rv qd138_211 qr138 kk
    · replace h := sw_ifN hb40 h
      refine ga_cneN (t := 185) qd138_178 e39 hb40 rfl ?_
      refine go_l qd138_185 rfl ?_
      obtain ⟨r50, e49, h⟩ := sw_bind h
      refine ga_kv (a := 221) (as := []) (rest := [.int (Int32.ofInt (l1 + 2)), .ref (z + 227)]) qd138_186 qk138_147 (sw_sl hn (by decide)) rfl rfl rfl (Nat.le_of_ble_eq_true rfl) (Nat.le_of_ble_eq_true rfl) rfl (A137 hn e49 (sw_bkv ?_))
      obtain ⟨T52, e51, h⟩ := sw_bind h
      refine ga_iast qd138_189 (sw_sl hn (by decide)) e51 ?_
      refine go_l qd138_190 rfl ?_
      refine go_s qd138_191 rfl ?_
      refine ga_gf (v := .int (Int32.ofInt (T52 221 13))) qd138_192 qc138 qf6_144 (sw_sl hn (by decide)) rfl rfl ?_
      refine go_l qd138_195 rfl ?_
      refine ga_gf (v := .int (Int32.ofInt (T52 221 11))) qd138_196 qc138 qf6_134 (sw_sl hn (by decide)) rfl rfl ?_
      obtain ⟨_u, e53, h⟩ := sw_bind h
      by_cases hb54 : (T52 221 11) = 0
      · replace h := sw_ifY hb54 h
        refine ga_zeqY (t := 206) qd138_199 e53 hb54 rfl ?_
        refine go_s qd138_206 rfl ?_
        refine ga_iadd qd138_207 ?_
        obtain ⟨T55, e56, h⟩ := sw_bind h
        refine ga_pfi qd138_208 qc138 qg6_144 (sw_sl hn (by decide)) rfl qi6_13 e56 ?_
        rw [← sw_sj h] at kk
        exact ga_rv qd138_211 qr138 kk
      · replace h := sw_ifN hb54 h
        refine ga_zeqN (t := 206) qd138_199 e53 hb54 rfl ?_
        refine go_s qd138_202 rfl ?_
        refine ga_jp (t := 207) qd138_203 rfl ?_
        refine ga_iadd qd138_207 ?_
        obtain ⟨T57, e58, h⟩ := sw_bind h
        refine ga_pfi qd138_208 qc138 qg6_144 (sw_sl hn (by decide)) rfl qi6_13 e58 ?_
        rw [← sw_sj h] at kk
        exact ga_rv qd138_211 qr138 kk
def w138_147 (T : sw_T) (l1 : Int) (l2 : Int) (s1 : Int) (s2 : Int) : Option (sw_T) :=
  (sw_pf T 221 10 (s1 + s2)).bind fun T25 =>
  w138_151 T25 l1 l2
theorem B138_147 {G : sp_G} {z n : Nat} (hn : 228 ≤ n) {T : sw_T} {K : sw_K} {l1 : Int} {l2 : Int} {s1 : Int} {s2 : Int} {res : sw_T} {Q : sp_R → sp_M → Prop} (h : w138_147 T l1 l2 s1 s2 = some res) (kk : Q (.inl none) (sw_M z n sw_Ft res K)) : sq_go G 138 147 [some (.ref (z + 221)), some (.int (Int32.ofInt l1)), some (.int (Int32.ofInt l2))] [.int (Int32.ofInt s2), .int (Int32.ofInt s1), .ref (z + 221)] (sw_M z n sw_Ft T K) Q := by
  unfold w138_147 at h
  refine ga_iadd qd138_147 ?_
  obtain ⟨T25, e26, h⟩ := sw_bind h
  refine ga_pfi qd138_148 qc138 qg6_131 (sw_sl hn (by decide)) rfl qi6_10 e26 ?_
  exact sq_weak (L := [some (.ref (z + 221)), some (.int (Int32.ofInt l1)), some (.int (Int32.ofInt l2))]) ⟨rfl, rfl, rfl, trivial⟩ (B138_151 hn h kk)
def w138_127 (T : sw_T) (l1 : Int) (l2 : Int) (s1 : Int) : Option (sw_T) :=
  (sw_pb T 221 11 s1).bind fun T21 =>
  (sw_r1 (T21 221 11)).bind fun _u =>
  if (T21 221 11) = 0 then
    w138_147 T21 l1 l2 (T21 221 10) 0
  else
    w138_147 T21 l1 l2 (T21 221 10) 1
theorem B138_127 {G : sp_G} {z n : Nat} (hn : 228 ≤ n) {T : sw_T} {K : sw_K} {l1 : Int} {l2 : Int} {s1 : Int} {res : sw_T} {Q : sp_R → sp_M → Prop} (h : w138_127 T l1 l2 s1 = some res) (kk : Q (.inl none) (sw_M z n sw_Ft res K)) : sq_go G 138 127 [some (.ref (z + 221)), some (.int (Int32.ofInt l1)), some (.int (Int32.ofInt l2))] [.int (Int32.ofInt s1), .ref (z + 221)] (sw_M z n sw_Ft T K) Q := by
  unfold w138_127 at h
  obtain ⟨T21, e22, h⟩ := sw_bind h
  refine ga_pfb qd138_127 qc138 qg6_134 (sw_sl hn (by decide)) rfl qi6_11 e22 ?_
  refine go_l qd138_130 rfl ?_
  refine go_s qd138_131 rfl ?_
  refine ga_gf (v := .int (Int32.ofInt (T21 221 10))) qd138_132 qc138 qf6_131 (sw_sl hn (by decide)) rfl rfl ?_
  refine go_l qd138_135 rfl ?_
  refine ga_gf (v := .int (Int32.ofInt (T21 221 11))) qd138_136 qc138 qf6_134 (sw_sl hn (by decide)) rfl rfl ?_
  obtain ⟨_u, e23, h⟩ := sw_bind h
  by_cases hb24 : (T21 221 11) = 0
  · replace h := sw_ifY hb24 h
    refine ga_zeqY (t := 146) qd138_139 e23 hb24 rfl ?_
    refine go_s qd138_146 rfl ?_
    exact sq_weak (L := [some (.ref (z + 221)), some (.int (Int32.ofInt l1)), some (.int (Int32.ofInt l2))]) ⟨rfl, rfl, rfl, trivial⟩ (B138_147 hn h kk)
  · replace h := sw_ifN hb24 h
    refine ga_zeqN (t := 146) qd138_139 e23 hb24 rfl ?_
    refine go_s qd138_142 rfl ?_
    refine ga_jp (t := 147) qd138_143 rfl ?_
    exact sq_weak (L := [some (.ref (z + 221)), some (.int (Int32.ofInt l1)), some (.int (Int32.ofInt l2))]) ⟨rfl, rfl, rfl, trivial⟩ (B138_147 hn h kk)
def w138_126 (T : sw_T) (l1 : Int) (l2 : Int) : Option (sw_T) :=
  w138_127 T l1 l2 0
theorem B138_126 {G : sp_G} {z n : Nat} (hn : 228 ≤ n) {T : sw_T} {K : sw_K} {l1 : Int} {l2 : Int} {res : sw_T} {Q : sp_R → sp_M → Prop} (h : w138_126 T l1 l2 = some res) (kk : Q (.inl none) (sw_M z n sw_Ft res K)) : sq_go G 138 126 [some (.ref (z + 221)), some (.int (Int32.ofInt l1)), some (.int (Int32.ofInt l2))] [.ref (z + 221)] (sw_M z n sw_Ft T K) Q := by
  unfold w138_126 at h
  refine go_s qd138_126 rfl ?_
  exact sq_weak (L := [some (.ref (z + 221)), some (.int (Int32.ofInt l1)), some (.int (Int32.ofInt l2))]) ⟨rfl, rfl, rfl, trivial⟩ (B138_127 hn h kk)
def w138_98 (T : sw_T) (l1 : Int) (l2 : Int) (s1 : Int) (s2 : Int) : Option (sw_T) :=
  (sw_st T 227 100 s1 s2).bind fun T16 =>
  (sw_r2 l2 108).bind fun _u =>
  if l2 = 108 then
    (sw_r1 (T16 221 11)).bind fun _u =>
    if (T16 221 11) = 0 then
      w138_126 T16 l1 l2
    else
      (w135 T16).bind fun r60 =>
      (sw_r2 r60 46).bind fun _u =>
      if r60 = 46 then
        w138_127 T16 l1 l2 1
      else
        w138_126 T16 l1 l2
  else
    w138_151 T16 l1 l2
theorem B138_98 {G : sp_G} {z n : Nat} (hn : 228 ≤ n) {T : sw_T} {K : sw_K} {l1 : Int} {l2 : Int} {s1 : Int} {s2 : Int} {res : sw_T} {Q : sp_R → sp_M → Prop} (h : w138_98 T l1 l2 s1 s2 = some res) (kk : Q (.inl none) (sw_M z n sw_Ft res K)) : sq_go G 138 98 [some (.ref (z + 221)), some (.int (Int32.ofInt l1)), some (.int (Int32.ofInt l2))] [.int (Int32.ofInt s2), .int (Int32.ofInt s1), .ref (z + 227)] (sw_M z n sw_Ft T K) Q := by
  unfold w138_98 at h
  obtain ⟨T16, e15, h⟩ := sw_bind h
  refine ga_iast qd138_98 (sw_sl hn (by decide)) e15 ?_
  refine go_l qd138_99 rfl ?_
  refine ga_k8 qd138_100 rfl ?_
  obtain ⟨_u, e17, h⟩ := sw_bind h
  by_cases hb18 : l2 = 108
  · replace h := sw_ifY hb18 h
    refine ga_cneY (t := 151) qd138_102 e17 hb18 rfl ?_
    refine go_l qd138_105 rfl ?_
    refine go_l qd138_106 rfl ?_
    refine ga_gf (v := .int (Int32.ofInt (T16 221 11))) qd138_107 qc138 qf6_134 (sw_sl hn (by decide)) rfl rfl ?_
    obtain ⟨_u, e19, h⟩ := sw_bind h
    by_cases hb20 : (T16 221 11) = 0
    · replace h := sw_ifY hb20 h
      refine ga_zeqY (t := 126) qd138_110 e19 hb20 rfl ?_
      exact sq_weak (L := [some (.ref (z + 221)), some (.int (Int32.ofInt l1)), some (.int (Int32.ofInt l2))]) ⟨rfl, rfl, rfl, trivial⟩ (B138_126 hn h kk)
    · replace h := sw_ifN hb20 h
      refine ga_zeqN (t := 126) qd138_110 e19 hb20 rfl ?_
      refine go_l qd138_113 rfl ?_
      obtain ⟨r60, e59, h⟩ := sw_bind h
      refine ga_kv (a := 221) (as := []) (rest := [.ref (z + 221)]) qd138_114 qk138_137 (sw_sl hn (by decide)) rfl rfl rfl (Nat.le_of_ble_eq_true rfl) (Nat.le_of_ble_eq_true rfl) rfl (A135 hn e59 (sw_bkv ?_))
      refine ga_k8 qd138_117 rfl ?_
      obtain ⟨_u, e61, h⟩ := sw_bind h
      by_cases hb62 : r60 = 46
      · replace h := sw_ifY hb62 h
        refine ga_cneY (t := 126) qd138_119 e61 hb62 rfl ?_
        refine go_s qd138_122 rfl ?_
        refine ga_jp (t := 127) qd138_123 rfl ?_
        exact sq_weak (L := [some (.ref (z + 221)), some (.int (Int32.ofInt l1)), some (.int (Int32.ofInt l2))]) ⟨rfl, rfl, rfl, trivial⟩ (B138_127 hn h kk)
      · replace h := sw_ifN hb62 h
        refine ga_cneN (t := 126) qd138_119 e61 hb62 rfl ?_
        exact sq_weak (L := [some (.ref (z + 221)), some (.int (Int32.ofInt l1)), some (.int (Int32.ofInt l2))]) ⟨rfl, rfl, rfl, trivial⟩ (B138_126 hn h kk)
  · replace h := sw_ifN hb18 h
    refine ga_cneN (t := 151) qd138_102 e17 hb18 rfl ?_
    exact sq_weak (L := [some (.ref (z + 221)), some (.int (Int32.ofInt l1)), some (.int (Int32.ofInt l2))]) ⟨rfl, rfl, rfl, trivial⟩ (B138_151 hn h kk)
def w138_62 (T : sw_T) (l1 : Int) (l2 : Int) (s1 : Int) (s2 : Int) : Option (sw_T) :=
  (sw_pf T 221 10 (s1 + s2)).bind fun T9 =>
  (sw_st T9 227 100 l1 l2).bind fun T12 =>
  (sw_r2 l2 109).bind fun _u =>
  if l2 = 109 then
    w138_98 T12 l1 l2 (l1 + 1) 0
  else
    (w136 T12 48 53).bind fun r64 =>
    w138_98 r64.2 l1 l2 (l1 + 1) r64.1
theorem B138_62 {G : sp_G} {z n : Nat} (hn : 228 ≤ n) {T : sw_T} {K : sw_K} {l1 : Int} {l2 : Int} {s1 : Int} {s2 : Int} {res : sw_T} {Q : sp_R → sp_M → Prop} (h : w138_62 T l1 l2 s1 s2 = some res) (kk : Q (.inl none) (sw_M z n sw_Ft res K)) : sq_go G 138 62 [some (.ref (z + 221)), some (.int (Int32.ofInt l1)), some (.int (Int32.ofInt l2))] [.int (Int32.ofInt s2), .int (Int32.ofInt s1), .ref (z + 221)] (sw_M z n sw_Ft T K) Q := by
  unfold w138_62 at h
  refine ga_iadd qd138_62 ?_
  obtain ⟨T9, e10, h⟩ := sw_bind h
  refine ga_pfi qd138_63 qc138 qg6_131 (sw_sl hn (by decide)) rfl qi6_10 e10 ?_
  refine go_l qd138_66 rfl ?_
  refine ga_gf (v := .ref (z + 227)) qd138_67 qc138 qf6_25 (sw_sl hn (by decide)) rfl rfl ?_
  refine go_l qd138_70 rfl ?_
  refine go_l qd138_71 rfl ?_
  obtain ⟨T12, e11, h⟩ := sw_bind h
  refine ga_iast qd138_72 (sw_sl hn (by decide)) e11 ?_
  refine go_l qd138_73 rfl ?_
  refine ga_gf (v := .ref (z + 227)) qd138_74 qc138 qf6_25 (sw_sl hn (by decide)) rfl rfl ?_
  refine go_l qd138_77 rfl ?_
  refine go_s qd138_78 rfl ?_
  refine ga_iadd qd138_79 ?_
  refine go_l qd138_80 rfl ?_
  refine ga_k8 qd138_81 rfl ?_
  obtain ⟨_u, e13, h⟩ := sw_bind h
  by_cases hb14 : l2 = 109
  · replace h := sw_ifY hb14 h
    refine ga_cneY (t := 90) qd138_83 e13 hb14 rfl ?_
    refine go_s qd138_86 rfl ?_
    refine ga_jp (t := 98) qd138_87 rfl ?_
    exact sq_weak (L := [some (.ref (z + 221)), some (.int (Int32.ofInt l1)), some (.int (Int32.ofInt l2))]) ⟨rfl, rfl, rfl, trivial⟩ (B138_98 hn h kk)
  · replace h := sw_ifN hb14 h
    refine ga_cneN (t := 90) qd138_83 e13 hb14 rfl ?_
    refine go_l qd138_90 rfl ?_
    refine ga_k8 qd138_91 rfl ?_
    refine ga_k8 qd138_93 rfl ?_
    obtain ⟨r64, e63, h⟩ := sw_bind h
    refine ga_kv (a := 221) (as := [.int (Int32.ofInt 48), .int (Int32.ofInt 53)]) (rest := [.int (Int32.ofInt (l1 + 1)), .ref (z + 227)]) qd138_95 qk138_141 (sw_sl hn (by decide)) rfl rfl rfl (Nat.le_of_ble_eq_true rfl) (Nat.le_of_ble_eq_true rfl) rfl (A136 hn e63 (sw_bkv ?_))
    exact sq_weak (L := [some (.ref (z + 221)), some (.int (Int32.ofInt l1)), some (.int (Int32.ofInt l2))]) ⟨rfl, rfl, rfl, trivial⟩ (B138_98 hn h kk)
def w138_42 (T : sw_T) (l1 : Int) (l2 : Int) (s1 : Int) : Option (sw_T) :=
  (sw_pb T 221 11 s1).bind fun T5 =>
  (sw_r1 (T5 221 11)).bind fun _u =>
  if (T5 221 11) = 0 then
    w138_62 T5 l1 l2 (T5 221 10) 0
  else
    w138_62 T5 l1 l2 (T5 221 10) 1
theorem B138_42 {G : sp_G} {z n : Nat} (hn : 228 ≤ n) {T : sw_T} {K : sw_K} {l1 : Int} {l2 : Int} {s1 : Int} {res : sw_T} {Q : sp_R → sp_M → Prop} (h : w138_42 T l1 l2 s1 = some res) (kk : Q (.inl none) (sw_M z n sw_Ft res K)) : sq_go G 138 42 [some (.ref (z + 221)), some (.int (Int32.ofInt l1)), some (.int (Int32.ofInt l2))] [.int (Int32.ofInt s1), .ref (z + 221)] (sw_M z n sw_Ft T K) Q := by
  unfold w138_42 at h
  obtain ⟨T5, e6, h⟩ := sw_bind h
  refine ga_pfb qd138_42 qc138 qg6_134 (sw_sl hn (by decide)) rfl qi6_11 e6 ?_
  refine go_l qd138_45 rfl ?_
  refine go_s qd138_46 rfl ?_
  refine ga_gf (v := .int (Int32.ofInt (T5 221 10))) qd138_47 qc138 qf6_131 (sw_sl hn (by decide)) rfl rfl ?_
  refine go_l qd138_50 rfl ?_
  refine ga_gf (v := .int (Int32.ofInt (T5 221 11))) qd138_51 qc138 qf6_134 (sw_sl hn (by decide)) rfl rfl ?_
  obtain ⟨_u, e7, h⟩ := sw_bind h
  by_cases hb8 : (T5 221 11) = 0
  · replace h := sw_ifY hb8 h
    refine ga_zeqY (t := 61) qd138_54 e7 hb8 rfl ?_
    refine go_s qd138_61 rfl ?_
    exact sq_weak (L := [some (.ref (z + 221)), some (.int (Int32.ofInt l1)), some (.int (Int32.ofInt l2))]) ⟨rfl, rfl, rfl, trivial⟩ (B138_62 hn h kk)
  · replace h := sw_ifN hb8 h
    refine ga_zeqN (t := 61) qd138_54 e7 hb8 rfl ?_
    refine go_s qd138_57 rfl ?_
    refine ga_jp (t := 62) qd138_58 rfl ?_
    exact sq_weak (L := [some (.ref (z + 221)), some (.int (Int32.ofInt l1)), some (.int (Int32.ofInt l2))]) ⟨rfl, rfl, rfl, trivial⟩ (B138_62 hn h kk)
def w138_37 (T : sw_T) (l1 : Int) (l2 : Int) : Option (sw_T) :=
  w138_42 T l1 l2 1
theorem B138_37 {G : sp_G} {z n : Nat} (hn : 228 ≤ n) {T : sw_T} {K : sw_K} {l1 : Int} {l2 : Int} {res : sw_T} {Q : sp_R → sp_M → Prop} (h : w138_37 T l1 l2 = some res) (kk : Q (.inl none) (sw_M z n sw_Ft res K)) : sq_go G 138 37 [some (.ref (z + 221)), some (.int (Int32.ofInt l1)), some (.int (Int32.ofInt l2))] [.ref (z + 221)] (sw_M z n sw_Ft T K) Q := by
  unfold w138_37 at h
  refine go_s qd138_37 rfl ?_
  refine ga_jp (t := 42) qd138_38 rfl ?_
  exact sq_weak (L := [some (.ref (z + 221)), some (.int (Int32.ofInt l1)), some (.int (Int32.ofInt l2))]) ⟨rfl, rfl, rfl, trivial⟩ (B138_42 hn h kk)
def w138 (T : sw_T) : Option (sw_T) :=
  (w135 T).bind fun r2 =>
  (sw_r2 r2 108).bind fun _u =>
  if r2 = 108 then
    w138_37 T (3 * (T 221 13)) r2
  else
    (sw_r2 r2 118).bind fun _u =>
    if r2 = 118 then
      w138_37 T (3 * (T 221 13)) r2
    else
      (sw_r2 r2 119).bind fun _u =>
      if r2 = 119 then
        w138_37 T (3 * (T 221 13)) r2
      else
        (sw_r2 r2 109).bind fun _u =>
        if r2 = 109 then
          w138_37 T (3 * (T 221 13)) r2
        else
          w138_42 T (3 * (T 221 13)) r2 0
theorem A138 {G : sp_G} {z n : Nat} (hn : 228 ≤ n) {T : sw_T} {K : sw_K} {res : sw_T} {Q : sp_R → sp_M → Prop} (h : w138 T = some res) (kk : Q (.inl none) (sw_M z n sw_Ft res K)) : sq_go G 138 0 [some (.ref (z + 221)), none, none] [] (sw_M z n sw_Ft T K) Q := by
  unfold w138 at h
  refine go_s qd138_0 rfl ?_
  refine go_l qd138_1 rfl ?_
  refine ga_gf (v := .int (Int32.ofInt (T 221 13))) qd138_2 qc138 qf6_144 (sw_sl hn (by decide)) rfl rfl ?_
  refine ga_imul qd138_5 ?_
  refine go_l (L' := [some (.ref (z + 221)), some (.int (Int32.ofInt (3 * (T 221 13)))), none]) (st' := []) qd138_6 rfl ?_
  refine go_l qd138_7 rfl ?_
  obtain ⟨r2, e1, h⟩ := sw_bind h
  refine ga_kv (a := 221) (as := []) (rest := []) qd138_8 qk138_137 (sw_sl hn (by decide)) rfl rfl rfl (Nat.le_of_ble_eq_true rfl) (Nat.le_of_ble_eq_true rfl) rfl (A135 hn e1 (sw_bkv ?_))
  refine go_l (L' := [some (.ref (z + 221)), some (.int (Int32.ofInt (3 * (T 221 13)))), some (.int (Int32.ofInt r2))]) (st' := []) qd138_11 rfl ?_
  refine go_l qd138_12 rfl ?_
  refine go_l qd138_13 rfl ?_
  refine ga_k8 qd138_14 rfl ?_
  obtain ⟨_u, e3, h⟩ := sw_bind h
  by_cases hb4 : r2 = 108
  · replace h := sw_ifY hb4 h
    refine ga_ceqY (t := 37) qd138_16 e3 hb4 rfl ?_
    exact sq_weak (L := [some (.ref (z + 221)), some (.int (Int32.ofInt (3 * (T 221 13)))), some (.int (Int32.ofInt r2))]) ⟨rfl, rfl, rfl, trivial⟩ (B138_37 hn h kk)
  · replace h := sw_ifN hb4 h
    refine ga_ceqN (t := 37) qd138_16 e3 hb4 rfl ?_
    refine go_l qd138_19 rfl ?_
    refine ga_k8 qd138_20 rfl ?_
    obtain ⟨_u, e65, h⟩ := sw_bind h
    by_cases hb66 : r2 = 118
    · replace h := sw_ifY hb66 h
      refine ga_ceqY (t := 37) qd138_22 e65 hb66 rfl ?_
      exact sq_weak (L := [some (.ref (z + 221)), some (.int (Int32.ofInt (3 * (T 221 13)))), some (.int (Int32.ofInt r2))]) ⟨rfl, rfl, rfl, trivial⟩ (B138_37 hn h kk)
    · replace h := sw_ifN hb66 h
      refine ga_ceqN (t := 37) qd138_22 e65 hb66 rfl ?_
      refine go_l qd138_25 rfl ?_
      refine ga_k8 qd138_26 rfl ?_
      obtain ⟨_u, e67, h⟩ := sw_bind h
      by_cases hb68 : r2 = 119
      · replace h := sw_ifY hb68 h
        refine ga_ceqY (t := 37) qd138_28 e67 hb68 rfl ?_
        exact sq_weak (L := [some (.ref (z + 221)), some (.int (Int32.ofInt (3 * (T 221 13)))), some (.int (Int32.ofInt r2))]) ⟨rfl, rfl, rfl, trivial⟩ (B138_37 hn h kk)
      · replace h := sw_ifN hb68 h
        refine ga_ceqN (t := 37) qd138_28 e67 hb68 rfl ?_
        refine go_l qd138_31 rfl ?_
        refine ga_k8 qd138_32 rfl ?_
        obtain ⟨_u, e69, h⟩ := sw_bind h
        by_cases hb70 : r2 = 109
        · replace h := sw_ifY hb70 h
          refine ga_cneY (t := 41) qd138_34 e69 hb70 rfl ?_
          exact sq_weak (L := [some (.ref (z + 221)), some (.int (Int32.ofInt (3 * (T 221 13)))), some (.int (Int32.ofInt r2))]) ⟨rfl, rfl, rfl, trivial⟩ (B138_37 hn h kk)
        · replace h := sw_ifN hb70 h
          refine ga_cneN (t := 41) qd138_34 e69 hb70 rfl ?_
          refine go_s qd138_41 rfl ?_
          exact sq_weak (L := [some (.ref (z + 221)), some (.int (Int32.ofInt (3 * (T 221 13)))), some (.int (Int32.ofInt r2))]) ⟨rfl, rfl, rfl, trivial⟩ (B138_42 hn h kk)
theorem qc139 : sq_c 139 = 6 := by decide +kernel
theorem qk139_150 : sw_ck 139 150 138 0 0 6 3 = true := by decide +kernel
theorem qk139_137 : sw_ck 139 137 135 0 0 6 1 = true := by decide +kernel
theorem qr139 : sq_ret 139 = none := by decide +kernel
-- 139: SewingPilesModel.readsAll()V
def w139_14 : Nat → sw_T → Option (sw_T)
  | 0, _ => none
  | m + 1, T =>
    (sw_r1 (T 221 11)).bind fun _u =>
    if (T 221 11) = 0 then
      some (T)
    else
      (sw_r2 (T 221 10) (T 221 8)).bind fun _u =>
      if (T 221 10) < (T 221 8) then
        (w135 T).bind fun r12 =>
        (sw_r2 r12 59).bind fun _u =>
        if r12 = 59 then
          (sw_pb T 221 11 1).bind fun T15 =>
          (sw_r1 (T15 221 11)).bind fun _u =>
          if (T15 221 11) = 0 then
            (sw_pf T15 221 10 ((T15 221 10) + 0)).bind fun T19 =>
            (sw_r1 (T19 221 11)).bind fun _u =>
            if (T19 221 11) = 0 then
              w139_14 m T19
            else
              (w138 T19).bind fun r24 =>
              w139_14 m r24
          else
            (sw_pf T15 221 10 ((T15 221 10) + 1)).bind fun T25 =>
            (sw_r1 (T25 221 11)).bind fun _u =>
            if (T25 221 11) = 0 then
              w139_14 m T25
            else
              (w138 T25).bind fun r30 =>
              w139_14 m r30
        else
          (sw_pb T 221 11 0).bind fun T31 =>
          (sw_r1 (T31 221 11)).bind fun _u =>
          if (T31 221 11) = 0 then
            (sw_pf T31 221 10 ((T31 221 10) + 0)).bind fun T35 =>
            (sw_r1 (T35 221 11)).bind fun _u =>
            if (T35 221 11) = 0 then
              w139_14 m T35
            else
              (w138 T35).bind fun r40 =>
              w139_14 m r40
          else
            (sw_pf T31 221 10 ((T31 221 10) + 1)).bind fun T41 =>
            (sw_r1 (T41 221 11)).bind fun _u =>
            if (T41 221 11) = 0 then
              w139_14 m T41
            else
              (w138 T41).bind fun r46 =>
              w139_14 m r46
      else
        some (T)
theorem B139_14 {G : sp_G} {z n : Nat} (hn : 228 ≤ n) {K : sw_K} {res : sw_T} {Q : sp_R → sp_M → Prop} (kk : sq_go G 139 85 [none] [] (sw_M z n sw_Ft res K) Q) : ∀ (m : Nat) (T : sw_T), w139_14  m T = some res → sq_go G 139 14 [some (.ref (z + 221))] [] (sw_M z n sw_Ft T K) Q := by
  intro m
  induction m with
  | zero => intro T h; cases h
  | succ m ih =>
    intro T h
    rw [w139_14] at h
    refine go_l qd139_14 rfl ?_
    refine ga_gf (v := .int (Int32.ofInt (T 221 11))) qd139_15 qc139 qf6_134 (sw_sl hn (by decide)) rfl rfl ?_
    obtain ⟨_u, e7, h⟩ := sw_bind h
    by_cases hb8 : (T 221 11) = 0
    · replace h := sw_ifY hb8 h
      refine ga_zeqY (t := 85) qd139_18 e7 hb8 rfl ?_
      rw [← sw_sj h] at kk
      exact sq_weak (L := [none]) trivial kk
    · replace h := sw_ifN hb8 h
      refine ga_zeqN (t := 85) qd139_18 e7 hb8 rfl ?_
      refine go_l qd139_21 rfl ?_
      refine ga_gf (v := .int (Int32.ofInt (T 221 10))) qd139_22 qc139 qf6_131 (sw_sl hn (by decide)) rfl rfl ?_
      refine go_l qd139_25 rfl ?_
      refine ga_gf (v := .int (Int32.ofInt (T 221 8))) qd139_26 qc139 qf6_128 (sw_sl hn (by decide)) rfl rfl ?_
      obtain ⟨_u, e9, h⟩ := sw_bind h
      by_cases hb10 : (T 221 10) < (T 221 8)
      · replace h := sw_ifY hb10 h
        refine ga_cgeY (t := 85) qd139_29 e9 hb10 rfl ?_
        refine go_l qd139_32 rfl ?_
        refine go_l qd139_33 rfl ?_
        obtain ⟨r12, e11, h⟩ := sw_bind h
        refine ga_kv (a := 221) (as := []) (rest := [.ref (z + 221)]) qd139_34 qk139_137 (sw_sl hn (by decide)) rfl rfl rfl (Nat.le_of_ble_eq_true rfl) (Nat.le_of_ble_eq_true rfl) rfl (A135 hn e11 (sw_bkv ?_))
        refine ga_k8 qd139_37 rfl ?_
        obtain ⟨_u, e13, h⟩ := sw_bind h
        by_cases hb14 : r12 = 59
        · replace h := sw_ifY hb14 h
          refine ga_cneY (t := 46) qd139_39 e13 hb14 rfl ?_
          refine go_s qd139_42 rfl ?_
          refine ga_jp (t := 47) qd139_43 rfl ?_
          obtain ⟨T15, e16, h⟩ := sw_bind h
          refine ga_pfb qd139_47 qc139 qg6_134 (sw_sl hn (by decide)) rfl qi6_11 e16 ?_
          refine go_l qd139_50 rfl ?_
          refine go_s qd139_51 rfl ?_
          refine ga_gf (v := .int (Int32.ofInt (T15 221 10))) qd139_52 qc139 qf6_131 (sw_sl hn (by decide)) rfl rfl ?_
          refine go_l qd139_55 rfl ?_
          refine ga_gf (v := .int (Int32.ofInt (T15 221 11))) qd139_56 qc139 qf6_134 (sw_sl hn (by decide)) rfl rfl ?_
          obtain ⟨_u, e17, h⟩ := sw_bind h
          by_cases hb18 : (T15 221 11) = 0
          · replace h := sw_ifY hb18 h
            refine ga_zeqY (t := 66) qd139_59 e17 hb18 rfl ?_
            refine go_s qd139_66 rfl ?_
            refine ga_iadd qd139_67 ?_
            obtain ⟨T19, e20, h⟩ := sw_bind h
            refine ga_pfi qd139_68 qc139 qg6_131 (sw_sl hn (by decide)) rfl qi6_10 e20 ?_
            refine go_l qd139_71 rfl ?_
            refine ga_gf (v := .int (Int32.ofInt (T19 221 11))) qd139_72 qc139 qf6_134 (sw_sl hn (by decide)) rfl rfl ?_
            obtain ⟨_u, e21, h⟩ := sw_bind h
            by_cases hb22 : (T19 221 11) = 0
            · replace h := sw_ifY hb22 h
              refine ga_zeqY (t := 14) qd139_75 e21 hb22 rfl ?_
              exact sq_weak (L := [some (.ref (z + 221))]) ⟨rfl, trivial⟩ (ih _ h)
            · replace h := sw_ifN hb22 h
              refine ga_zeqN (t := 14) qd139_75 e21 hb22 rfl ?_
              refine go_l qd139_78 rfl ?_
              obtain ⟨r24, e23, h⟩ := sw_bind h
              refine ga_kv (a := 221) (as := []) (rest := []) qd139_79 qk139_150 (sw_sl hn (by decide)) rfl rfl rfl (Nat.le_of_ble_eq_true rfl) (Nat.le_of_ble_eq_true rfl) rfl (A138 hn e23 (sw_bk0 ?_))
              refine ga_jp (t := 14) qd139_82 rfl ?_
              exact sq_weak (L := [some (.ref (z + 221))]) ⟨rfl, trivial⟩ (ih _ h)
          · replace h := sw_ifN hb18 h
            refine ga_zeqN (t := 66) qd139_59 e17 hb18 rfl ?_
            refine go_s qd139_62 rfl ?_
            refine ga_jp (t := 67) qd139_63 rfl ?_
            refine ga_iadd qd139_67 ?_
            obtain ⟨T25, e26, h⟩ := sw_bind h
            refine ga_pfi qd139_68 qc139 qg6_131 (sw_sl hn (by decide)) rfl qi6_10 e26 ?_
            refine go_l qd139_71 rfl ?_
            refine ga_gf (v := .int (Int32.ofInt (T25 221 11))) qd139_72 qc139 qf6_134 (sw_sl hn (by decide)) rfl rfl ?_
            obtain ⟨_u, e27, h⟩ := sw_bind h
            by_cases hb28 : (T25 221 11) = 0
            · replace h := sw_ifY hb28 h
              refine ga_zeqY (t := 14) qd139_75 e27 hb28 rfl ?_
              exact sq_weak (L := [some (.ref (z + 221))]) ⟨rfl, trivial⟩ (ih _ h)
            · replace h := sw_ifN hb28 h
              refine ga_zeqN (t := 14) qd139_75 e27 hb28 rfl ?_
              refine go_l qd139_78 rfl ?_
              obtain ⟨r30, e29, h⟩ := sw_bind h
              refine ga_kv (a := 221) (as := []) (rest := []) qd139_79 qk139_150 (sw_sl hn (by decide)) rfl rfl rfl (Nat.le_of_ble_eq_true rfl) (Nat.le_of_ble_eq_true rfl) rfl (A138 hn e29 (sw_bk0 ?_))
              refine ga_jp (t := 14) qd139_82 rfl ?_
              exact sq_weak (L := [some (.ref (z + 221))]) ⟨rfl, trivial⟩ (ih _ h)
        · replace h := sw_ifN hb14 h
          refine ga_cneN (t := 46) qd139_39 e13 hb14 rfl ?_
          refine go_s qd139_46 rfl ?_
          obtain ⟨T31, e32, h⟩ := sw_bind h
          refine ga_pfb qd139_47 qc139 qg6_134 (sw_sl hn (by decide)) rfl qi6_11 e32 ?_
          refine go_l qd139_50 rfl ?_
          refine go_s qd139_51 rfl ?_
          refine ga_gf (v := .int (Int32.ofInt (T31 221 10))) qd139_52 qc139 qf6_131 (sw_sl hn (by decide)) rfl rfl ?_
          refine go_l qd139_55 rfl ?_
          refine ga_gf (v := .int (Int32.ofInt (T31 221 11))) qd139_56 qc139 qf6_134 (sw_sl hn (by decide)) rfl rfl ?_
          obtain ⟨_u, e33, h⟩ := sw_bind h
          by_cases hb34 : (T31 221 11) = 0
          · replace h := sw_ifY hb34 h
            refine ga_zeqY (t := 66) qd139_59 e33 hb34 rfl ?_
            refine go_s qd139_66 rfl ?_
            refine ga_iadd qd139_67 ?_
            obtain ⟨T35, e36, h⟩ := sw_bind h
            refine ga_pfi qd139_68 qc139 qg6_131 (sw_sl hn (by decide)) rfl qi6_10 e36 ?_
            refine go_l qd139_71 rfl ?_
            refine ga_gf (v := .int (Int32.ofInt (T35 221 11))) qd139_72 qc139 qf6_134 (sw_sl hn (by decide)) rfl rfl ?_
            obtain ⟨_u, e37, h⟩ := sw_bind h
            by_cases hb38 : (T35 221 11) = 0
            · replace h := sw_ifY hb38 h
              refine ga_zeqY (t := 14) qd139_75 e37 hb38 rfl ?_
              exact sq_weak (L := [some (.ref (z + 221))]) ⟨rfl, trivial⟩ (ih _ h)
            · replace h := sw_ifN hb38 h
              refine ga_zeqN (t := 14) qd139_75 e37 hb38 rfl ?_
              refine go_l qd139_78 rfl ?_
              obtain ⟨r40, e39, h⟩ := sw_bind h
              refine ga_kv (a := 221) (as := []) (rest := []) qd139_79 qk139_150 (sw_sl hn (by decide)) rfl rfl rfl (Nat.le_of_ble_eq_true rfl) (Nat.le_of_ble_eq_true rfl) rfl (A138 hn e39 (sw_bk0 ?_))
              refine ga_jp (t := 14) qd139_82 rfl ?_
              exact sq_weak (L := [some (.ref (z + 221))]) ⟨rfl, trivial⟩ (ih _ h)
          · replace h := sw_ifN hb34 h
            refine ga_zeqN (t := 66) qd139_59 e33 hb34 rfl ?_
            refine go_s qd139_62 rfl ?_
            refine ga_jp (t := 67) qd139_63 rfl ?_
            refine ga_iadd qd139_67 ?_
            obtain ⟨T41, e42, h⟩ := sw_bind h
            refine ga_pfi qd139_68 qc139 qg6_131 (sw_sl hn (by decide)) rfl qi6_10 e42 ?_
            refine go_l qd139_71 rfl ?_
            refine ga_gf (v := .int (Int32.ofInt (T41 221 11))) qd139_72 qc139 qf6_134 (sw_sl hn (by decide)) rfl rfl ?_
            obtain ⟨_u, e43, h⟩ := sw_bind h
            by_cases hb44 : (T41 221 11) = 0
            · replace h := sw_ifY hb44 h
              refine ga_zeqY (t := 14) qd139_75 e43 hb44 rfl ?_
              exact sq_weak (L := [some (.ref (z + 221))]) ⟨rfl, trivial⟩ (ih _ h)
            · replace h := sw_ifN hb44 h
              refine ga_zeqN (t := 14) qd139_75 e43 hb44 rfl ?_
              refine go_l qd139_78 rfl ?_
              obtain ⟨r46, e45, h⟩ := sw_bind h
              refine ga_kv (a := 221) (as := []) (rest := []) qd139_79 qk139_150 (sw_sl hn (by decide)) rfl rfl rfl (Nat.le_of_ble_eq_true rfl) (Nat.le_of_ble_eq_true rfl) rfl (A138 hn e45 (sw_bk0 ?_))
              refine ga_jp (t := 14) qd139_82 rfl ?_
              exact sq_weak (L := [some (.ref (z + 221))]) ⟨rfl, trivial⟩ (ih _ h)
      · replace h := sw_ifN hb10 h
        refine ga_cgeN (t := 85) qd139_29 e9 hb10 rfl ?_
        rw [← sw_sj h] at kk
        exact sq_weak (L := [none]) trivial kk
def w139 (T : sw_T) : Option (sw_T) :=
  (sw_pf T 221 10 0).bind fun T1 =>
  (sw_pf T1 221 13 0).bind fun T3 =>
  (w138 T3).bind fun r6 =>
  (w139_14 sw_N r6).bind fun x47 =>
  some (x47)
theorem A139 {G : sp_G} {z n : Nat} (hn : 228 ≤ n) {T : sw_T} {K : sw_K} {res : sw_T} {Q : sp_R → sp_M → Prop} (h : w139 T = some res) (kk : Q (.inl none) (sw_M z n sw_Ft res K)) : sq_go G 139 0 [some (.ref (z + 221))] [] (sw_M z n sw_Ft T K) Q := by
  unfold w139 at h
  refine go_l qd139_0 rfl ?_
  refine go_s qd139_1 rfl ?_
  obtain ⟨T1, e2, h⟩ := sw_bind h
  refine ga_pfi qd139_2 qc139 qg6_131 (sw_sl hn (by decide)) rfl qi6_10 e2 ?_
  refine go_l qd139_5 rfl ?_
  refine go_s qd139_6 rfl ?_
  obtain ⟨T3, e4, h⟩ := sw_bind h
  refine ga_pfi qd139_7 qc139 qg6_144 (sw_sl hn (by decide)) rfl qi6_13 e4 ?_
  refine go_l qd139_10 rfl ?_
  obtain ⟨r6, e5, h⟩ := sw_bind h
  refine ga_kv (a := 221) (as := []) (rest := []) qd139_11 qk139_150 (sw_sl hn (by decide)) rfl rfl rfl (Nat.le_of_ble_eq_true rfl) (Nat.le_of_ble_eq_true rfl) rfl (A138 hn e5 (sw_bk0 ?_))
  obtain ⟨x47, e48, h⟩ := sw_bind h
  refine sq_weak (L := [some (.ref (z + 221))]) ⟨rfl, trivial⟩ (B139_14 hn (res := x47) ?_ _ _ e48)
  rw [← sw_sj h] at kk
  exact ga_rv qd139_85 qr139 kk
theorem qc140 : sq_c 140 = 6 := by decide +kernel
theorem qk140_153 : sw_ck 140 153 139 0 0 6 1 = true := by decide +kernel
theorem qr140 : sq_ret 140 = some .int := by decide +kernel
-- 140: SewingPilesModel.firstError()I
def w140 (T : sw_T) : Option (Int × sw_T) :=
  (sw_pf T 221 0 0).bind fun T1 =>
  (w139 T1).bind fun r4 =>
  some (((r4 221 10), r4))
theorem A140 {G : sp_G} {z n : Nat} (hn : 228 ≤ n) {T : sw_T} {K : sw_K} {res : Int × sw_T} {Q : sp_R → sp_M → Prop} (h : w140 T = some res) (kk : Q (.inl (some (.int (Int32.ofInt res.1)))) (sw_M z n sw_Ft res.2 K)) : sq_go G 140 0 [some (.ref (z + 221))] [] (sw_M z n sw_Ft T K) Q := by
  unfold w140 at h
  refine go_l qd140_0 rfl ?_
  refine go_s qd140_1 rfl ?_
  obtain ⟨T1, e2, h⟩ := sw_bind h
  refine ga_pfi qd140_2 qc140 qg6_28 (sw_sl hn (by decide)) rfl qi6_0 e2 ?_
  refine go_l qd140_5 rfl ?_
  obtain ⟨r4, e3, h⟩ := sw_bind h
  refine ga_kv (a := 221) (as := []) (rest := []) qd140_6 qk140_153 (sw_sl hn (by decide)) rfl rfl rfl (Nat.le_of_ble_eq_true rfl) (Nat.le_of_ble_eq_true rfl) rfl (A139 hn e3 (sw_bk0 ?_))
  refine go_l qd140_9 rfl ?_
  refine ga_gf (v := .int (Int32.ofInt (r4 221 10))) qd140_10 qc140 qf6_131 (sw_sl hn (by decide)) rfl rfl ?_
  rw [← sw_sj h] at kk
  exact ga_ri qd140_13 qr140 kk
theorem qc141 : sq_c 141 = 6 := by decide +kernel
theorem qr141 : sq_ret 141 = some .boolean := by decide +kernel
theorem qk141_60 : sw_ck 141 60 109 0 2 6 4 = true := by decide +kernel
theorem qk141_32 : sw_ck 141 32 99 0 3 6 4 = true := by decide +kernel
theorem qk141_119 : sw_ck 141 119 129 0 1 6 3 = true := by decide +kernel
theorem qk141_125 : sw_ck 141 125 120 0 1 6 3 = true := by decide +kernel
theorem qk141_112 : sw_ck 141 112 104 0 1 6 2 = true := by decide +kernel
theorem qk141_116 : sw_ck 141 116 127 0 1 6 2 = true := by decide +kernel
-- 141: SewingPilesModel.obeys(I)Z
def w141_61 (T : sw_T) (l1 : Int) (l2 : Int) (l3 : Int) (s0 : Int) : Option (Int × sw_T) :=
  (sw_r1 s0).bind fun _u =>
  if s0 = 0 then
    (sw_b1 s0).bind fun _u =>
    some ((s0, T))
  else
    (sw_ld T 227 100 l1).bind fun v13 =>
    (sw_r1 v13).bind fun _u =>
    if v13 = 108 then
      (w109 T l2 l3).bind fun r17 =>
      (sw_b1 s0).bind fun _u =>
      some ((s0, r17.2))
    else
    if v13 = 118 then
      (w99 T l2 0 l3).bind fun r21 =>
      (sw_b1 s0).bind fun _u =>
      some ((s0, r21))
    else
    if v13 = 119 then
      (w129 T l2).bind fun r25 =>
      (sw_b1 s0).bind fun _u =>
      some ((s0, r25.2))
    else
      (w120 T l3).bind fun r28 =>
      (sw_b1 s0).bind fun _u =>
      some ((s0, r28))
theorem B141_61 {G : sp_G} {z n : Nat} (hn : 228 ≤ n) {T : sw_T} {K : sw_K} {l1 : Int} {l2 : Int} {l3 : Int} {s0 : Int} {res : Int × sw_T} {Q : sp_R → sp_M → Prop} (h : w141_61 T l1 l2 l3 s0 = some res) (kk : Q (.inl (some (.int (Int32.ofInt res.1)))) (sw_M z n sw_Ft res.2 K)) : sq_go G 141 61 [some (.ref (z + 221)), some (.int (Int32.ofInt l1)), some (.int (Int32.ofInt l2)), some (.int (Int32.ofInt l3)), none] [.int (Int32.ofInt s0)] (sw_M z n sw_Ft T K) Q := by
  unfold w141_61 at h
  refine go_l (L' := [some (.ref (z + 221)), some (.int (Int32.ofInt l1)), some (.int (Int32.ofInt l2)), some (.int (Int32.ofInt l3)), some (.int (Int32.ofInt s0))]) (st' := []) qd141_61 rfl ?_
  refine go_l qd141_63 rfl ?_
  obtain ⟨_u, e9, h⟩ := sw_bind h
  by_cases hb10 : s0 = 0
  · replace h := sw_ifY hb10 h
    refine ga_zeqY (t := 142) qd141_65 e9 hb10 rfl ?_
    refine go_l qd141_142 rfl ?_
    obtain ⟨_u, e11, h⟩ := sw_bind h
    rw [← sw_sj h] at kk
    exact ga_rb qd141_144 qr141 e11 kk
  · replace h := sw_ifN hb10 h
    refine ga_zeqN (t := 142) qd141_65 e9 hb10 rfl ?_
    refine go_l qd141_68 rfl ?_
    refine ga_gf (v := .ref (z + 227)) qd141_69 qc141 qf6_25 (sw_sl hn (by decide)) rfl rfl ?_
    refine go_l qd141_72 rfl ?_
    obtain ⟨v13, e12, h⟩ := sw_bind h
    refine ga_iald qd141_73 (sw_sl hn (by decide)) e12 ?_
    obtain ⟨_u, e14, h⟩ := sw_bind h
    by_cases hb15 : v13 = 108
    · replace h := sw_ifY hb15 h
      refine ga_sw (t := 108) qd141_74 rfl hb15 rfl ?_
      refine go_l qd141_108 rfl ?_
      refine go_l qd141_109 rfl ?_
      refine go_l qd141_110 rfl ?_
      obtain ⟨r17, e16, h⟩ := sw_bind h
      refine ga_kv (a := 221) (as := [.int (Int32.ofInt l2), .int (Int32.ofInt l3)]) (rest := []) qd141_111 qk141_60 (sw_sl hn (by decide)) rfl rfl rfl (Nat.le_of_ble_eq_true rfl) (Nat.le_of_ble_eq_true rfl) rfl (A109 hn e16 (sw_bkv ?_))
      refine go_s qd141_114 rfl ?_
      refine ga_jp (t := 142) qd141_115 rfl ?_
      refine go_l qd141_142 rfl ?_
      obtain ⟨_u, e18, h⟩ := sw_bind h
      rw [← sw_sj h] at kk
      exact ga_rb qd141_144 qr141 e18 kk
    · replace h := sw_ifN hb15 h
      by_cases hb19 : v13 = 118
      · replace h := sw_ifY hb19 h
        refine ga_sw (t := 118) qd141_74 rfl hb19 rfl ?_
        refine go_l qd141_118 rfl ?_
        refine go_l qd141_119 rfl ?_
        refine go_s qd141_120 rfl ?_
        refine go_l qd141_121 rfl ?_
        obtain ⟨r21, e20, h⟩ := sw_bind h
        refine ga_kv (a := 221) (as := [.int (Int32.ofInt l2), .int (Int32.ofInt 0), .int (Int32.ofInt l3)]) (rest := []) qd141_122 qk141_32 (sw_sl hn (by decide)) rfl rfl rfl (Nat.le_of_ble_eq_true rfl) (Nat.le_of_ble_eq_true rfl) rfl (A99 hn e20 (sw_bk0 ?_))
        refine ga_jp (t := 142) qd141_125 rfl ?_
        refine go_l qd141_142 rfl ?_
        obtain ⟨_u, e22, h⟩ := sw_bind h
        rw [← sw_sj h] at kk
        exact ga_rb qd141_144 qr141 e22 kk
      · replace h := sw_ifN hb19 h
        by_cases hb23 : v13 = 119
        · replace h := sw_ifY hb23 h
          refine ga_sw (t := 128) qd141_74 rfl hb23 rfl ?_
          refine go_l qd141_128 rfl ?_
          refine go_l qd141_129 rfl ?_
          obtain ⟨r25, e24, h⟩ := sw_bind h
          refine ga_kv (a := 221) (as := [.int (Int32.ofInt l2)]) (rest := []) qd141_130 qk141_119 (sw_sl hn (by decide)) rfl rfl rfl (Nat.le_of_ble_eq_true rfl) (Nat.le_of_ble_eq_true rfl) rfl (A129 hn e24 (sw_bkv ?_))
          refine go_s qd141_133 rfl ?_
          refine ga_jp (t := 142) qd141_134 rfl ?_
          refine go_l qd141_142 rfl ?_
          obtain ⟨_u, e26, h⟩ := sw_bind h
          rw [← sw_sj h] at kk
          exact ga_rb qd141_144 qr141 e26 kk
        · replace h := sw_ifN hb23 h
          refine ga_lsd (t := 137) qd141_74 e14 (by decide) (by intro p hp; simp only [List.mem_cons, List.not_mem_nil, or_false] at hp; rcases hp with rfl | rfl | rfl <;> (dsimp only; omega)) rfl ?_
          refine go_l qd141_137 rfl ?_
          refine go_l qd141_138 rfl ?_
          obtain ⟨r28, e27, h⟩ := sw_bind h
          refine ga_kv (a := 221) (as := [.int (Int32.ofInt l3)]) (rest := []) qd141_139 qk141_125 (sw_sl hn (by decide)) rfl rfl rfl (Nat.le_of_ble_eq_true rfl) (Nat.le_of_ble_eq_true rfl) rfl (A120 hn e27 (sw_bk0 ?_))
          refine go_l qd141_142 rfl ?_
          obtain ⟨_u, e29, h⟩ := sw_bind h
          rw [← sw_sj h] at kk
          exact ga_rb qd141_144 qr141 e29 kk
def w141_56 (T : sw_T) (l1 : Int) (l2 : Int) (l3 : Int) : Option (Int × sw_T) :=
  w141_61 T l1 l2 l3 1
theorem B141_56 {G : sp_G} {z n : Nat} (hn : 228 ≤ n) {T : sw_T} {K : sw_K} {l1 : Int} {l2 : Int} {l3 : Int} {res : Int × sw_T} {Q : sp_R → sp_M → Prop} (h : w141_56 T l1 l2 l3 = some res) (kk : Q (.inl (some (.int (Int32.ofInt res.1)))) (sw_M z n sw_Ft res.2 K)) : sq_go G 141 56 [some (.ref (z + 221)), some (.int (Int32.ofInt l1)), some (.int (Int32.ofInt l2)), some (.int (Int32.ofInt l3)), none] [] (sw_M z n sw_Ft T K) Q := by
  unfold w141_56 at h
  refine go_s qd141_56 rfl ?_
  refine ga_jp (t := 61) qd141_57 rfl ?_
  exact sq_weak (L := [some (.ref (z + 221)), some (.int (Int32.ofInt l1)), some (.int (Int32.ofInt l2)), some (.int (Int32.ofInt l3)), none]) ⟨rfl, rfl, rfl, rfl, trivial⟩ (B141_61 hn h kk)
def w141_60 (T : sw_T) (l1 : Int) (l2 : Int) (l3 : Int) : Option (Int × sw_T) :=
  w141_61 T l1 l2 l3 0
theorem B141_60 {G : sp_G} {z n : Nat} (hn : 228 ≤ n) {T : sw_T} {K : sw_K} {l1 : Int} {l2 : Int} {l3 : Int} {res : Int × sw_T} {Q : sp_R → sp_M → Prop} (h : w141_60 T l1 l2 l3 = some res) (kk : Q (.inl (some (.int (Int32.ofInt res.1)))) (sw_M z n sw_Ft res.2 K)) : sq_go G 141 60 [some (.ref (z + 221)), some (.int (Int32.ofInt l1)), some (.int (Int32.ofInt l2)), some (.int (Int32.ofInt l3)), none] [] (sw_M z n sw_Ft T K) Q := by
  unfold w141_60 at h
  refine go_s qd141_60 rfl ?_
  exact sq_weak (L := [some (.ref (z + 221)), some (.int (Int32.ofInt l1)), some (.int (Int32.ofInt l2)), some (.int (Int32.ofInt l3)), none]) ⟨rfl, rfl, rfl, rfl, trivial⟩ (B141_61 hn h kk)
def w141 (T : sw_T) (p1 : Int) : Option (Int × sw_T) :=
  (sw_ld T 227 100 (p1 + 1)).bind fun v2 =>
  (sw_ld T 227 100 (p1 + 2)).bind fun v4 =>
  (sw_ld T 227 100 p1).bind fun v6 =>
  (sw_r2 v6 109).bind fun _u =>
  if v6 = 109 then
    w141_56 T p1 v2 v4
  else
    (w104 T v2).bind fun r31 =>
    (sw_r1 r31).bind fun _u =>
    if r31 = 0 then
      w141_60 T p1 v2 v4
    else
      (sw_ld T 227 100 p1).bind fun v35 =>
      (sw_r2 v35 108).bind fun _u =>
      if v35 = 108 then
        (w127 T v2).bind fun r39 =>
        (sw_r1 r39).bind fun _u =>
        if r39 = 0 then
          w141_60 T p1 v2 v4
        else
          w141_56 T p1 v2 v4
      else
        w141_56 T p1 v2 v4
theorem A141 {G : sp_G} {z n : Nat} (hn : 228 ≤ n) {T : sw_T} {K : sw_K} {p1 : Int} {res : Int × sw_T} {Q : sp_R → sp_M → Prop} (h : w141 T p1 = some res) (kk : Q (.inl (some (.int (Int32.ofInt res.1)))) (sw_M z n sw_Ft res.2 K)) : sq_go G 141 0 [some (.ref (z + 221)), some (.int (Int32.ofInt p1)), none, none, none] [] (sw_M z n sw_Ft T K) Q := by
  unfold w141 at h
  refine go_l qd141_0 rfl ?_
  refine ga_gf (v := .ref (z + 227)) qd141_1 qc141 qf6_25 (sw_sl hn (by decide)) rfl rfl ?_
  refine go_l qd141_4 rfl ?_
  refine go_s qd141_5 rfl ?_
  refine ga_iadd qd141_6 ?_
  obtain ⟨v2, e1, h⟩ := sw_bind h
  refine ga_iald qd141_7 (sw_sl hn (by decide)) e1 ?_
  refine go_l (L' := [some (.ref (z + 221)), some (.int (Int32.ofInt p1)), some (.int (Int32.ofInt v2)), none, none]) (st' := []) qd141_8 rfl ?_
  refine go_l qd141_9 rfl ?_
  refine ga_gf (v := .ref (z + 227)) qd141_10 qc141 qf6_25 (sw_sl hn (by decide)) rfl rfl ?_
  refine go_l qd141_13 rfl ?_
  refine go_s qd141_14 rfl ?_
  refine ga_iadd qd141_15 ?_
  obtain ⟨v4, e3, h⟩ := sw_bind h
  refine ga_iald qd141_16 (sw_sl hn (by decide)) e3 ?_
  refine go_l (L' := [some (.ref (z + 221)), some (.int (Int32.ofInt p1)), some (.int (Int32.ofInt v2)), some (.int (Int32.ofInt v4)), none]) (st' := []) qd141_17 rfl ?_
  refine go_l qd141_18 rfl ?_
  refine ga_gf (v := .ref (z + 227)) qd141_19 qc141 qf6_25 (sw_sl hn (by decide)) rfl rfl ?_
  refine go_l qd141_22 rfl ?_
  obtain ⟨v6, e5, h⟩ := sw_bind h
  refine ga_iald qd141_23 (sw_sl hn (by decide)) e5 ?_
  refine ga_k8 qd141_24 rfl ?_
  obtain ⟨_u, e7, h⟩ := sw_bind h
  by_cases hb8 : v6 = 109
  · replace h := sw_ifY hb8 h
    refine ga_ceqY (t := 56) qd141_26 e7 hb8 rfl ?_
    exact sq_weak (L := [some (.ref (z + 221)), some (.int (Int32.ofInt p1)), some (.int (Int32.ofInt v2)), some (.int (Int32.ofInt v4)), none]) ⟨rfl, rfl, rfl, rfl, trivial⟩ (B141_56 hn h kk)
  · replace h := sw_ifN hb8 h
    refine ga_ceqN (t := 56) qd141_26 e7 hb8 rfl ?_
    refine go_l qd141_29 rfl ?_
    refine go_l qd141_30 rfl ?_
    obtain ⟨r31, e30, h⟩ := sw_bind h
    refine ga_kv (a := 221) (as := [.int (Int32.ofInt v2)]) (rest := []) qd141_31 qk141_112 (sw_sl hn (by decide)) rfl rfl rfl (Nat.le_of_ble_eq_true rfl) (Nat.le_of_ble_eq_true rfl) rfl (A104 hn e30 (sw_bkv ?_))
    obtain ⟨_u, e32, h⟩ := sw_bind h
    by_cases hb33 : r31 = 0
    · replace h := sw_ifY hb33 h
      refine ga_zeqY (t := 60) qd141_34 e32 hb33 rfl ?_
      exact sq_weak (L := [some (.ref (z + 221)), some (.int (Int32.ofInt p1)), some (.int (Int32.ofInt v2)), some (.int (Int32.ofInt v4)), none]) ⟨rfl, rfl, rfl, rfl, trivial⟩ (B141_60 hn h kk)
    · replace h := sw_ifN hb33 h
      refine ga_zeqN (t := 60) qd141_34 e32 hb33 rfl ?_
      refine go_l qd141_37 rfl ?_
      refine ga_gf (v := .ref (z + 227)) qd141_38 qc141 qf6_25 (sw_sl hn (by decide)) rfl rfl ?_
      refine go_l qd141_41 rfl ?_
      obtain ⟨v35, e34, h⟩ := sw_bind h
      refine ga_iald qd141_42 (sw_sl hn (by decide)) e34 ?_
      refine ga_k8 qd141_43 rfl ?_
      obtain ⟨_u, e36, h⟩ := sw_bind h
      by_cases hb37 : v35 = 108
      · replace h := sw_ifY hb37 h
        refine ga_cneY (t := 56) qd141_45 e36 hb37 rfl ?_
        refine go_l qd141_48 rfl ?_
        refine go_l qd141_49 rfl ?_
        obtain ⟨r39, e38, h⟩ := sw_bind h
        refine ga_kv (a := 221) (as := [.int (Int32.ofInt v2)]) (rest := []) qd141_50 qk141_116 (sw_sl hn (by decide)) rfl rfl rfl (Nat.le_of_ble_eq_true rfl) (Nat.le_of_ble_eq_true rfl) rfl (A127 hn e38 (sw_bkv ?_))
        obtain ⟨_u, e40, h⟩ := sw_bind h
        by_cases hb41 : r39 = 0
        · replace h := sw_ifY hb41 h
          refine ga_zeqY (t := 60) qd141_53 e40 hb41 rfl ?_
          exact sq_weak (L := [some (.ref (z + 221)), some (.int (Int32.ofInt p1)), some (.int (Int32.ofInt v2)), some (.int (Int32.ofInt v4)), none]) ⟨rfl, rfl, rfl, rfl, trivial⟩ (B141_60 hn h kk)
        · replace h := sw_ifN hb41 h
          refine ga_zeqN (t := 60) qd141_53 e40 hb41 rfl ?_
          exact sq_weak (L := [some (.ref (z + 221)), some (.int (Int32.ofInt p1)), some (.int (Int32.ofInt v2)), some (.int (Int32.ofInt v4)), none]) ⟨rfl, rfl, rfl, rfl, trivial⟩ (B141_56 hn h kk)
      · replace h := sw_ifN hb37 h
        refine ga_cneN (t := 56) qd141_45 e36 hb37 rfl ?_
        exact sq_weak (L := [some (.ref (z + 221)), some (.int (Int32.ofInt p1)), some (.int (Int32.ofInt v2)), some (.int (Int32.ofInt v4)), none]) ⟨rfl, rfl, rfl, rfl, trivial⟩ (B141_56 hn h kk)
theorem qc142 : sq_c 142 = 6 := by decide +kernel
theorem qk142_153 : sw_ck 142 153 139 0 0 6 1 = true := by decide +kernel
theorem qk142_103 : sw_ck 142 103 97 0 1 6 2 = true := by decide +kernel
theorem qr142 : sq_ret 142 = some .int := by decide +kernel
theorem qk142_106 : sw_ck 142 106 105 0 0 6 2 = true := by decide +kernel
theorem qk142_156 : sw_ck 142 156 141 0 1 6 5 = true := by decide +kernel
-- 142: SewingPilesModel.obey()I
def w142_33 : Nat → sw_T → Int → Option (sw_T × Int)
  | 0, _, _ => none
  | m + 1, T, l1 =>
    (sw_r2 l1 (T 221 13)).bind fun _u =>
    if l1 < (T 221 13) then
      (w141 T (3 * l1)).bind fun r16 =>
      (sw_r1 r16.1).bind fun _u =>
      if r16.1 = 0 then
        some ((r16.2, l1))
      else
        w142_33 m r16.2 (l1 + 1)
    else
      some ((T, l1))
theorem B142_33 {G : sp_G} {z n : Nat} (hn : 228 ≤ n) {K : sw_K} {res : sw_T × Int} {Q : sp_R → sp_M → Prop} (kk : sq_go G 142 57 [none, some (.int (Int32.ofInt res.2))] [] (sw_M z n sw_Ft res.1 K) Q) : ∀ (m : Nat) (T : sw_T) (l1 : Int), w142_33  m T l1 = some res → sq_go G 142 33 [some (.ref (z + 221)), some (.int (Int32.ofInt l1))] [] (sw_M z n sw_Ft T K) Q := by
  intro m
  induction m with
  | zero => intro T l1 h; cases h
  | succ m ih =>
    intro T l1 h
    rw [w142_33] at h
    refine go_l qd142_33 rfl ?_
    refine go_l qd142_34 rfl ?_
    refine ga_gf (v := .int (Int32.ofInt (T 221 13))) qd142_35 qc142 qf6_144 (sw_sl hn (by decide)) rfl rfl ?_
    obtain ⟨_u, e13, h⟩ := sw_bind h
    by_cases hb14 : l1 < (T 221 13)
    · replace h := sw_ifY hb14 h
      refine ga_cgeY (t := 57) qd142_38 e13 hb14 rfl ?_
      refine go_l qd142_41 rfl ?_
      refine go_s qd142_42 rfl ?_
      refine go_l qd142_43 rfl ?_
      refine ga_imul qd142_44 ?_
      obtain ⟨r16, e15, h⟩ := sw_bind h
      refine ga_kv (a := 221) (as := [.int (Int32.ofInt (3 * l1))]) (rest := []) qd142_45 qk142_156 (sw_sl hn (by decide)) rfl rfl rfl (Nat.le_of_ble_eq_true rfl) (Nat.le_of_ble_eq_true rfl) rfl (A141 hn e15 (sw_bkv ?_))
      obtain ⟨_u, e17, h⟩ := sw_bind h
      by_cases hb18 : r16.1 = 0
      · replace h := sw_ifY hb18 h
        refine ga_zeqY (t := 57) qd142_48 e17 hb18 rfl ?_
        rw [← sw_sj h] at kk
        exact sq_weak (L := [none, some (.int (Int32.ofInt l1))]) ⟨rfl, trivial⟩ kk
      · replace h := sw_ifN hb18 h
        refine ga_zeqN (t := 57) qd142_48 e17 hb18 rfl ?_
        refine ga_ii (L' := [some (.ref (z + 221)), some (.int (Int32.ofInt (l1 + 1)))]) qd142_51 rfl rfl ?_
        refine ga_jp (t := 33) qd142_54 rfl ?_
        exact sq_weak (L := [some (.ref (z + 221)), some (.int (Int32.ofInt (l1 + 1)))]) ⟨rfl, rfl, trivial⟩ (ih _ _ h)
    · replace h := sw_ifN hb14 h
      refine ga_cgeN (t := 57) qd142_38 e13 hb14 rfl ?_
      rw [← sw_sj h] at kk
      exact sq_weak (L := [none, some (.int (Int32.ofInt l1))]) ⟨rfl, trivial⟩ kk
def w142 (T : sw_T) : Option (Int × sw_T) :=
  (sw_pf T 221 0 0).bind fun T1 =>
  (w139 T1).bind fun r4 =>
  (sw_r1 (r4 221 11)).bind fun _u =>
  if (r4 221 11) = 0 then
    (w97 r4 1).bind fun r8 =>
    some ((r8.1, r8.2))
  else
    (w105 r4).bind fun r10 =>
    (sw_pf r10 221 8 0).bind fun T11 =>
    (w142_33 sw_N T11 0).bind fun x19 =>
    some ((x19.2, x19.1))
theorem A142 {G : sp_G} {z n : Nat} (hn : 228 ≤ n) {T : sw_T} {K : sw_K} {res : Int × sw_T} {Q : sp_R → sp_M → Prop} (h : w142 T = some res) (kk : Q (.inl (some (.int (Int32.ofInt res.1)))) (sw_M z n sw_Ft res.2 K)) : sq_go G 142 0 [some (.ref (z + 221)), none] [] (sw_M z n sw_Ft T K) Q := by
  unfold w142 at h
  refine go_l qd142_0 rfl ?_
  refine go_s qd142_1 rfl ?_
  obtain ⟨T1, e2, h⟩ := sw_bind h
  refine ga_pfi qd142_2 qc142 qg6_28 (sw_sl hn (by decide)) rfl qi6_0 e2 ?_
  refine go_l qd142_5 rfl ?_
  obtain ⟨r4, e3, h⟩ := sw_bind h
  refine ga_kv (a := 221) (as := []) (rest := []) qd142_6 qk142_153 (sw_sl hn (by decide)) rfl rfl rfl (Nat.le_of_ble_eq_true rfl) (Nat.le_of_ble_eq_true rfl) rfl (A139 hn e3 (sw_bk0 ?_))
  refine go_l qd142_9 rfl ?_
  refine ga_gf (v := .int (Int32.ofInt (r4 221 11))) qd142_10 qc142 qf6_134 (sw_sl hn (by decide)) rfl rfl ?_
  obtain ⟨_u, e5, h⟩ := sw_bind h
  by_cases hb6 : (r4 221 11) = 0
  · replace h := sw_ifY hb6 h
    refine ga_zneY (t := 22) qd142_13 e5 hb6 rfl ?_
    refine go_l qd142_16 rfl ?_
    refine go_s qd142_17 rfl ?_
    obtain ⟨r8, e7, h⟩ := sw_bind h
    refine ga_kv (a := 221) (as := [.int (Int32.ofInt 1)]) (rest := []) qd142_18 qk142_103 (sw_sl hn (by decide)) rfl rfl rfl (Nat.le_of_ble_eq_true rfl) (Nat.le_of_ble_eq_true rfl) rfl (A97 hn e7 (sw_bkv ?_))
    rw [← sw_sj h] at kk
    exact ga_ri qd142_21 qr142 kk
  · replace h := sw_ifN hb6 h
    refine ga_zneN (t := 22) qd142_13 e5 hb6 rfl ?_
    refine go_l qd142_22 rfl ?_
    obtain ⟨r10, e9, h⟩ := sw_bind h
    refine ga_kv (a := 221) (as := []) (rest := []) qd142_23 qk142_106 (sw_sl hn (by decide)) rfl rfl rfl (Nat.le_of_ble_eq_true rfl) (Nat.le_of_ble_eq_true rfl) rfl (A105 hn e9 (sw_bk0 ?_))
    refine go_l qd142_26 rfl ?_
    refine go_s qd142_27 rfl ?_
    obtain ⟨T11, e12, h⟩ := sw_bind h
    refine ga_pfi qd142_28 qc142 qg6_128 (sw_sl hn (by decide)) rfl qi6_8 e12 ?_
    refine go_s qd142_31 rfl ?_
    refine go_l (L' := [some (.ref (z + 221)), some (.int (Int32.ofInt 0))]) (st' := []) qd142_32 rfl ?_
    obtain ⟨x19, e20, h⟩ := sw_bind h
    refine sq_weak (L := [some (.ref (z + 221)), some (.int (Int32.ofInt 0))]) ⟨rfl, rfl, trivial⟩ (B142_33 hn (res := x19) ?_ _ _ _ e20)
    refine go_l qd142_57 rfl ?_
    rw [← sw_sj h] at kk
    exact ga_ri qd142_58 qr142 kk
theorem qc143 : sq_c 143 = 6 := by decide +kernel
theorem qf6_19 : (sp_fd sp_flT 6 19).or (sp_fd sp_fnT 6 19) = some (6, 5) := by decide +kernel
theorem qg6_159 : sp_fd sp_flT 6 159 = some (6, 6) := by decide +kernel
theorem qr143 : sq_ret 143 = some .int := by decide +kernel
-- 143: SewingPilesModel.keep()I
def w143_7 : Nat → sw_T → Int → Option (sw_T)
  | 0, _, _ => none
  | m + 1, T, l1 =>
    (sw_r2 l1 543).bind fun _u =>
    if l1 < 543 then
      (sw_ld T 222 543 l1).bind fun v6 =>
      (sw_st T 225 543 l1 v6).bind fun T8 =>
      w143_7 m T8 (l1 + 1)
    else
      some (T)
theorem B143_7 {G : sp_G} {z n : Nat} (hn : 228 ≤ n) {K : sw_K} {res : sw_T} {Q : sp_R → sp_M → Prop} (kk : sq_go G 143 32 [some (.ref (z + 221)), none] [] (sw_M z n sw_Ft res K) Q) : ∀ (m : Nat) (T : sw_T) (l1 : Int), w143_7  m T l1 = some res → sq_go G 143 7 [some (.ref (z + 221)), some (.int (Int32.ofInt l1))] [] (sw_M z n sw_Ft T K) Q := by
  intro m
  induction m with
  | zero => intro T l1 h; cases h
  | succ m ih =>
    intro T l1 h
    rw [w143_7] at h
    refine go_l qd143_7 rfl ?_
    refine ga_k16 qd143_8 rfl ?_
    obtain ⟨_u, e3, h⟩ := sw_bind h
    by_cases hb4 : l1 < 543
    · replace h := sw_ifY hb4 h
      refine ga_cgeY (t := 32) qd143_11 e3 hb4 rfl ?_
      refine go_l qd143_14 rfl ?_
      refine ga_gf (v := .ref (z + 225)) qd143_15 qc143 qf6_19 (sw_sl hn (by decide)) rfl rfl ?_
      refine go_l qd143_18 rfl ?_
      refine go_l qd143_19 rfl ?_
      refine ga_gf (v := .ref (z + 222)) qd143_20 qc143 qf6_7 (sw_sl hn (by decide)) rfl rfl ?_
      refine go_l qd143_23 rfl ?_
      obtain ⟨v6, e5, h⟩ := sw_bind h
      refine ga_iald qd143_24 (sw_sl hn (by decide)) e5 ?_
      obtain ⟨T8, e7, h⟩ := sw_bind h
      refine ga_iast qd143_25 (sw_sl hn (by decide)) e7 ?_
      refine ga_ii (L' := [some (.ref (z + 221)), some (.int (Int32.ofInt (l1 + 1)))]) qd143_26 rfl rfl ?_
      refine ga_jp (t := 7) qd143_29 rfl ?_
      exact sq_weak (L := [some (.ref (z + 221)), some (.int (Int32.ofInt (l1 + 1)))]) ⟨rfl, rfl, trivial⟩ (ih _ _ h)
    · replace h := sw_ifN hb4 h
      refine ga_cgeN (t := 32) qd143_11 e3 hb4 rfl ?_
      rw [← sw_sj h] at kk
      exact sq_weak (L := [some (.ref (z + 221)), none]) ⟨rfl, trivial⟩ kk
def w143 (T : sw_T) : Option (Int × sw_T) :=
  (sw_pf T 221 0 0).bind fun T1 =>
  (w143_7 sw_N T1 0).bind fun x9 =>
  (sw_pb x9 221 6 1).bind fun T11 =>
  (sw_ld T11 222 543 3).bind fun v14 =>
  some ((v14, T11))
theorem A143 {G : sp_G} {z n : Nat} (hn : 228 ≤ n) {T : sw_T} {K : sw_K} {res : Int × sw_T} {Q : sp_R → sp_M → Prop} (h : w143 T = some res) (kk : Q (.inl (some (.int (Int32.ofInt res.1)))) (sw_M z n sw_Ft res.2 K)) : sq_go G 143 0 [some (.ref (z + 221)), none] [] (sw_M z n sw_Ft T K) Q := by
  unfold w143 at h
  refine go_l qd143_0 rfl ?_
  refine go_s qd143_1 rfl ?_
  obtain ⟨T1, e2, h⟩ := sw_bind h
  refine ga_pfi qd143_2 qc143 qg6_28 (sw_sl hn (by decide)) rfl qi6_0 e2 ?_
  refine go_s qd143_5 rfl ?_
  refine go_l (L' := [some (.ref (z + 221)), some (.int (Int32.ofInt 0))]) (st' := []) qd143_6 rfl ?_
  obtain ⟨x9, e10, h⟩ := sw_bind h
  refine sq_weak (L := [some (.ref (z + 221)), some (.int (Int32.ofInt 0))]) ⟨rfl, rfl, trivial⟩ (B143_7 hn (res := x9) ?_ _ _ _ e10)
  refine go_l qd143_32 rfl ?_
  refine go_s qd143_33 rfl ?_
  obtain ⟨T11, e12, h⟩ := sw_bind h
  refine ga_pfb qd143_34 qc143 qg6_159 (sw_sl hn (by decide)) rfl qi6_6 e12 ?_
  refine go_l qd143_37 rfl ?_
  refine ga_gf (v := .ref (z + 222)) qd143_38 qc143 qf6_7 (sw_sl hn (by decide)) rfl rfl ?_
  refine go_s qd143_41 rfl ?_
  obtain ⟨v14, e13, h⟩ := sw_bind h
  refine ga_iald qd143_42 (sw_sl hn (by decide)) e13 ?_
  rw [← sw_sj h] at kk
  exact ga_ri qd143_43 qr143 kk
theorem qc144 : sq_c 144 = 6 := by decide +kernel
theorem qf6_159 : (sp_fd sp_flT 6 159).or (sp_fd sp_fnT 6 159) = some (6, 6) := by decide +kernel
theorem qk144_103 : sw_ck 144 103 97 0 1 6 2 = true := by decide +kernel
theorem qr144 : sq_ret 144 = some .int := by decide +kernel
theorem qk144_106 : sw_ck 144 106 105 0 0 6 2 = true := by decide +kernel
-- 144: SewingPilesModel.goBack()I
def w144_24 : Nat → sw_T → Int → Option (sw_T)
  | 0, _, _ => none
  | m + 1, T, l1 =>
    (sw_r2 l1 543).bind fun _u =>
    if l1 < 543 then
      (sw_ld T 225 543 l1).bind fun v12 =>
      (sw_st T 222 543 l1 v12).bind fun T14 =>
      w144_24 m T14 (l1 + 1)
    else
      some (T)
theorem B144_24 {G : sp_G} {z n : Nat} (hn : 228 ≤ n) {K : sw_K} {res : sw_T} {Q : sp_R → sp_M → Prop} (kk : sq_go G 144 49 [some (.ref (z + 221)), none] [] (sw_M z n sw_Ft res K) Q) : ∀ (m : Nat) (T : sw_T) (l1 : Int), w144_24  m T l1 = some res → sq_go G 144 24 [some (.ref (z + 221)), some (.int (Int32.ofInt l1))] [] (sw_M z n sw_Ft T K) Q := by
  intro m
  induction m with
  | zero => intro T l1 h; cases h
  | succ m ih =>
    intro T l1 h
    rw [w144_24] at h
    refine go_l qd144_24 rfl ?_
    refine ga_k16 qd144_25 rfl ?_
    obtain ⟨_u, e9, h⟩ := sw_bind h
    by_cases hb10 : l1 < 543
    · replace h := sw_ifY hb10 h
      refine ga_cgeY (t := 49) qd144_28 e9 hb10 rfl ?_
      refine go_l qd144_31 rfl ?_
      refine ga_gf (v := .ref (z + 222)) qd144_32 qc144 qf6_7 (sw_sl hn (by decide)) rfl rfl ?_
      refine go_l qd144_35 rfl ?_
      refine go_l qd144_36 rfl ?_
      refine ga_gf (v := .ref (z + 225)) qd144_37 qc144 qf6_19 (sw_sl hn (by decide)) rfl rfl ?_
      refine go_l qd144_40 rfl ?_
      obtain ⟨v12, e11, h⟩ := sw_bind h
      refine ga_iald qd144_41 (sw_sl hn (by decide)) e11 ?_
      obtain ⟨T14, e13, h⟩ := sw_bind h
      refine ga_iast qd144_42 (sw_sl hn (by decide)) e13 ?_
      refine ga_ii (L' := [some (.ref (z + 221)), some (.int (Int32.ofInt (l1 + 1)))]) qd144_43 rfl rfl ?_
      refine ga_jp (t := 24) qd144_46 rfl ?_
      exact sq_weak (L := [some (.ref (z + 221)), some (.int (Int32.ofInt (l1 + 1)))]) ⟨rfl, rfl, trivial⟩ (ih _ _ h)
    · replace h := sw_ifN hb10 h
      refine ga_cgeN (t := 49) qd144_28 e9 hb10 rfl ?_
      rw [← sw_sj h] at kk
      exact sq_weak (L := [some (.ref (z + 221)), none]) ⟨rfl, trivial⟩ kk
def w144 (T : sw_T) : Option (Int × sw_T) :=
  (sw_pf T 221 0 0).bind fun T1 =>
  (sw_r1 (T1 221 6)).bind fun _u =>
  if (T1 221 6) = 0 then
    (w97 T1 1).bind fun r6 =>
    some ((r6.1, r6.2))
  else
    (w105 T1).bind fun r8 =>
    (w144_24 sw_N r8 0).bind fun x15 =>
    (sw_ld x15 222 543 3).bind fun v18 =>
    some ((v18, x15))
theorem A144 {G : sp_G} {z n : Nat} (hn : 228 ≤ n) {T : sw_T} {K : sw_K} {res : Int × sw_T} {Q : sp_R → sp_M → Prop} (h : w144 T = some res) (kk : Q (.inl (some (.int (Int32.ofInt res.1)))) (sw_M z n sw_Ft res.2 K)) : sq_go G 144 0 [some (.ref (z + 221)), none] [] (sw_M z n sw_Ft T K) Q := by
  unfold w144 at h
  refine go_l qd144_0 rfl ?_
  refine go_s qd144_1 rfl ?_
  obtain ⟨T1, e2, h⟩ := sw_bind h
  refine ga_pfi qd144_2 qc144 qg6_28 (sw_sl hn (by decide)) rfl qi6_0 e2 ?_
  refine go_l qd144_5 rfl ?_
  refine ga_gf (v := .int (Int32.ofInt (T1 221 6))) qd144_6 qc144 qf6_159 (sw_sl hn (by decide)) rfl rfl ?_
  obtain ⟨_u, e3, h⟩ := sw_bind h
  by_cases hb4 : (T1 221 6) = 0
  · replace h := sw_ifY hb4 h
    refine ga_zneY (t := 18) qd144_9 e3 hb4 rfl ?_
    refine go_l qd144_12 rfl ?_
    refine go_s qd144_13 rfl ?_
    obtain ⟨r6, e5, h⟩ := sw_bind h
    refine ga_kv (a := 221) (as := [.int (Int32.ofInt 1)]) (rest := []) qd144_14 qk144_103 (sw_sl hn (by decide)) rfl rfl rfl (Nat.le_of_ble_eq_true rfl) (Nat.le_of_ble_eq_true rfl) rfl (A97 hn e5 (sw_bkv ?_))
    rw [← sw_sj h] at kk
    exact ga_ri qd144_17 qr144 kk
  · replace h := sw_ifN hb4 h
    refine ga_zneN (t := 18) qd144_9 e3 hb4 rfl ?_
    refine go_l qd144_18 rfl ?_
    obtain ⟨r8, e7, h⟩ := sw_bind h
    refine ga_kv (a := 221) (as := []) (rest := []) qd144_19 qk144_106 (sw_sl hn (by decide)) rfl rfl rfl (Nat.le_of_ble_eq_true rfl) (Nat.le_of_ble_eq_true rfl) rfl (A105 hn e7 (sw_bk0 ?_))
    refine go_s qd144_22 rfl ?_
    refine go_l (L' := [some (.ref (z + 221)), some (.int (Int32.ofInt 0))]) (st' := []) qd144_23 rfl ?_
    obtain ⟨x15, e16, h⟩ := sw_bind h
    refine sq_weak (L := [some (.ref (z + 221)), some (.int (Int32.ofInt 0))]) ⟨rfl, rfl, trivial⟩ (B144_24 hn (res := x15) ?_ _ _ _ e16)
    refine go_l qd144_49 rfl ?_
    refine ga_gf (v := .ref (z + 222)) qd144_50 qc144 qf6_7 (sw_sl hn (by decide)) rfl rfl ?_
    refine go_s qd144_53 rfl ?_
    obtain ⟨v18, e17, h⟩ := sw_bind h
    refine ga_iald qd144_54 (sw_sl hn (by decide)) e17 ?_
    rw [← sw_sj h] at kk
    exact ga_ri qd144_55 qr144 kk
