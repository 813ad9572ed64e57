/-! ===== the methods as functions over tables ===== -/
theorem qr25 : sq_ret 25 = some .boolean := by decide +kernel
theorem qc25 : sq_c 25 = 3 := by decide +kernel
-- 25: SewingPiles$Room.hasSeamstress(I)Z
def w25 (b : Nat) (T : sw_T) (p1 : Int) : Option (Int) :=
  (sw_r1 p1).bind fun _u =>
  if p1 < 0 then
    some (0)
  else
    (sw_r2 p1 (T b 1)).bind fun _u =>
    if p1 < (T b 1) then
      (sw_r2 p1 7).bind fun _u =>
      if p1 < 7 then
        some (1)
      else
        some (0)
    else
      some (0)
theorem A25 {G : sp_G} {z n : Nat} (hn : 228 ≤ n) {b : Nat} (hb : b ∈ sw_rm) {T : sw_T} {K : sw_K} {p1 : Int} {res : Int} {Q : sp_R → sp_M → Prop} (h : w25 b T p1 = some res) (kk : Q (.inl (some (.int (Int32.ofInt res)))) (sw_M z n sw_Ft T K)) : sq_go G 25 0 [some (.ref (z + b)), some (.int (Int32.ofInt p1))] [] (sw_M z n sw_Ft T K) Q := by
  unfold w25 at h
  refine go_l qd25_0 rfl ?_
  obtain ⟨_u, e1, h⟩ := sw_bind h
  by_cases hb2 : p1 < 0
  · replace h := sw_ifY hb2 h
    refine ga_zltY (t := 22) qd25_1 e1 hb2 rfl ?_
    refine go_s qd25_22 rfl ?_
    rw [← sw_sj h] at kk
    exact ga_rb (u := ()) qd25_23 qr25 (by decide) kk
  · replace h := sw_ifN hb2 h
    refine ga_zltN (t := 22) qd25_1 e1 hb2 rfl ?_
    refine go_l qd25_4 rfl ?_
    refine go_l qd25_5 rfl ?_
    refine ga_gf (v := .int (Int32.ofInt (T b 1))) qd25_6 qc25 qf3_9 (sw_rb hn hb) rfl rfl ?_
    obtain ⟨_u, e3, h⟩ := sw_bind h
    by_cases hb4 : p1 < (T b 1)
    · replace h := sw_ifY hb4 h
      refine ga_cgeY (t := 22) qd25_9 e3 hb4 rfl ?_
      refine go_l qd25_12 rfl ?_
      refine ga_k8 qd25_13 rfl ?_
      obtain ⟨_u, e5, h⟩ := sw_bind h
      by_cases hb6 : p1 < 7
      · replace h := sw_ifY hb6 h
        refine ga_cgeY (t := 22) qd25_15 e5 hb6 rfl ?_
        refine go_s qd25_18 rfl ?_
        refine ga_jp (t := 23) qd25_19 rfl ?_
        rw [← sw_sj h] at kk
        exact ga_rb (u := ()) qd25_23 qr25 (by decide) kk
      · replace h := sw_ifN hb6 h
        refine ga_cgeN (t := 22) qd25_15 e5 hb6 rfl ?_
        refine go_s qd25_22 rfl ?_
        rw [← sw_sj h] at kk
        exact ga_rb (u := ()) qd25_23 qr25 (by decide) kk
    · replace h := sw_ifN hb4 h
      refine ga_cgeN (t := 22) qd25_9 e3 hb4 rfl ?_
      refine go_s qd25_22 rfl ?_
      rw [← sw_sj h] at kk
      exact ga_rb (u := ()) qd25_23 qr25 (by decide) kk
theorem qc26 : sq_c 26 = 3 := by decide +kernel
theorem qr26 : sq_ret 26 = some .int := by decide +kernel
-- 26: SewingPiles$Room.addSeamstress(I)I
def w26 (b : Nat) (T : sw_T) (p1 : Int) : Option (Int × sw_T) :=
  (sw_r1 (T b 1)).bind fun _u =>
  if (T b 1) < 0 then
    some (((-1), T))
  else
    (sw_r2 (T b 1) 7).bind fun _u =>
    if (T b 1) < 7 then
      (sw_st T (b + 2) 7 (T b 1) p1).bind fun T6 =>
      (sw_pf T6 b 1 ((T6 b 1) + 1)).bind fun T7 =>
      some ((((T7 b 1) - 1), T7))
    else
      some (((-1), T))
theorem A26 {G : sp_G} {z n : Nat} (hn : 228 ≤ n) {b : Nat} (hb : b ∈ sw_rm) {T : sw_T} {K : sw_K} {p1 : Int} {res : Int × sw_T} {Q : sp_R → sp_M → Prop} (h : w26 b T p1 = some res) (kk : Q (.inl (some (.int (Int32.ofInt res.1)))) (sw_M z n sw_Ft res.2 K)) : sq_go G 26 0 [some (.ref (z + b)), some (.int (Int32.ofInt p1))] [] (sw_M z n sw_Ft T K) Q := by
  unfold w26 at h
  refine go_l qd26_0 rfl ?_
  refine ga_gf (v := .int (Int32.ofInt (T b 1))) qd26_1 qc26 qf3_9 (sw_rb hn hb) rfl rfl ?_
  obtain ⟨_u, e1, h⟩ := sw_bind h
  by_cases hb2 : (T b 1) < 0
  · replace h := sw_ifY hb2 h
    refine ga_zltY (t := 16) qd26_4 e1 hb2 rfl ?_
    refine go_s qd26_16 rfl ?_
    rw [← sw_sj h] at kk
    exact ga_ri qd26_17 qr26 kk
  · replace h := sw_ifN hb2 h
    refine ga_zltN (t := 16) qd26_4 e1 hb2 rfl ?_
    refine go_l qd26_7 rfl ?_
    refine ga_gf (v := .int (Int32.ofInt (T b 1))) qd26_8 qc26 qf3_9 (sw_rb hn hb) rfl rfl ?_
    refine ga_k8 qd26_11 rfl ?_
    obtain ⟨_u, e3, h⟩ := sw_bind h
    by_cases hb4 : (T b 1) < 7
    · replace h := sw_ifY hb4 h
      refine ga_cltY (t := 18) qd26_13 e3 hb4 rfl ?_
      refine go_l qd26_18 rfl ?_
      refine ga_gf (v := .ref (z + (b + 2))) qd26_19 qc26 qf3_19 (sw_rb hn hb) rfl rfl ?_
      refine go_l qd26_22 rfl ?_
      refine ga_gf (v := .int (Int32.ofInt (T b 1))) qd26_23 qc26 qf3_9 (sw_rb hn hb) rfl rfl ?_
      refine go_l qd26_26 rfl ?_
      obtain ⟨T6, e5, h⟩ := sw_bind h
      refine ga_iast qd26_27 (sw_rk hn hb 2 (by decide)) e5 ?_
      refine go_l qd26_28 rfl ?_
      refine go_s qd26_29 rfl ?_
      refine ga_gf (v := .int (Int32.ofInt (T6 b 1))) qd26_30 qc26 qf3_9 (sw_rb hn hb) rfl rfl ?_
      refine go_s qd26_33 rfl ?_
      refine ga_iadd qd26_34 ?_
      obtain ⟨T7, e8, h⟩ := sw_bind h
      refine ga_pfi qd26_35 qc26 qg3_9 (sw_rb hn hb) rfl qi3_1 e8 ?_
      refine go_l qd26_38 rfl ?_
      refine ga_gf (v := .int (Int32.ofInt (T7 b 1))) qd26_39 qc26 qf3_9 (sw_rb hn hb) rfl rfl ?_
      refine go_s qd26_42 rfl ?_
      refine ga_isub qd26_43 ?_
      rw [← sw_sj h] at kk
      exact ga_ri qd26_44 qr26 kk
    · replace h := sw_ifN hb4 h
      refine ga_cltN (t := 18) qd26_13 e3 hb4 rfl ?_
      refine go_s qd26_16 rfl ?_
      rw [← sw_sj h] at kk
      exact ga_ri qd26_17 qr26 kk
theorem qk27_74 : sw_ck 27 74 25 0 1 3 2 = true := by decide +kernel
theorem qr27 : sq_ret 27 = some .int := by decide +kernel
theorem qc27 : sq_c 27 = 3 := by decide +kernel
-- 27: SewingPiles$Room.changeSpeed(II)I
def w27 (b : Nat) (T : sw_T) (p1 : Int) (p2 : Int) : Option (Int × sw_T) :=
  (w25 b T p1).bind fun r2 =>
  (sw_r1 r2).bind fun _u =>
  if r2 = 0 then
    some (((-1), T))
  else
    (sw_ld T (b + 2) 7 p1).bind fun v6 =>
    (sw_st T (b + 2) 7 p1 p2).bind fun T8 =>
    some ((v6, T8))
theorem A27 {G : sp_G} {z n : Nat} (hn : 228 ≤ n) {b : Nat} (hb : b ∈ sw_rm) {T : sw_T} {K : sw_K} {p1 : Int} {p2 : Int} {res : Int × sw_T} {Q : sp_R → sp_M → Prop} (h : w27 b T p1 p2 = some res) (kk : Q (.inl (some (.int (Int32.ofInt res.1)))) (sw_M z n sw_Ft res.2 K)) : sq_go G 27 0 [some (.ref (z + b)), some (.int (Int32.ofInt p1)), some (.int (Int32.ofInt p2)), none] [] (sw_M z n sw_Ft T K) Q := by
  unfold w27 at h
  refine go_l qd27_0 rfl ?_
  refine go_l qd27_1 rfl ?_
  obtain ⟨r2, e1, h⟩ := sw_bind h
  refine ga_kv (a := b) (as := [.int (Int32.ofInt p1)]) (rest := []) qd27_2 qk27_74 (sw_rb hn hb) rfl rfl rfl (Nat.le_of_ble_eq_true rfl) (Nat.le_of_ble_eq_true rfl) rfl (A25 hn hb e1 (sw_bkv ?_))
  obtain ⟨_u, e3, h⟩ := sw_bind h
  by_cases hb4 : r2 = 0
  · replace h := sw_ifY hb4 h
    refine ga_zneY (t := 10) qd27_5 e3 hb4 rfl ?_
    refine go_s qd27_8 rfl ?_
    rw [← sw_sj h] at kk
    exact ga_ri qd27_9 qr27 kk
  · replace h := sw_ifN hb4 h
    refine ga_zneN (t := 10) qd27_5 e3 hb4 rfl ?_
    refine go_l qd27_10 rfl ?_
    refine ga_gf (v := .ref (z + (b + 2))) qd27_11 qc27 qf3_19 (sw_rb hn hb) rfl rfl ?_
    refine go_l qd27_14 rfl ?_
    obtain ⟨v6, e5, h⟩ := sw_bind h
    refine ga_iald qd27_15 (sw_rk hn hb 2 (by decide)) e5 ?_
    refine go_l (L' := [some (.ref (z + b)), some (.int (Int32.ofInt p1)), some (.int (Int32.ofInt p2)), some (.int (Int32.ofInt v6))]) (st' := []) qd27_16 rfl ?_
    refine go_l qd27_17 rfl ?_
    refine ga_gf (v := .ref (z + (b + 2))) qd27_18 qc27 qf3_19 (sw_rb hn hb) rfl rfl ?_
    refine go_l qd27_21 rfl ?_
    refine go_l qd27_22 rfl ?_
    obtain ⟨T8, e7, h⟩ := sw_bind h
    refine ga_iast qd27_23 (sw_rk hn hb 2 (by decide)) e7 ?_
    refine go_l qd27_24 rfl ?_
    rw [← sw_sj h] at kk
    exact ga_ri qd27_25 qr27 kk
theorem qk28_74 : sw_ck 28 74 25 0 1 3 2 = true := by decide +kernel
theorem qr28 : sq_ret 28 = some .int := by decide +kernel
theorem qc28 : sq_c 28 = 3 := by decide +kernel
-- 28: SewingPiles$Room.rouse(I)I
def w28 (b : Nat) (T : sw_T) (p1 : Int) : Option (Int × sw_T) :=
  (w25 b T p1).bind fun r2 =>
  (sw_r1 r2).bind fun _u =>
  if r2 = 0 then
    some (((-1), T))
  else
    (sw_ld T (b + 5) 7 p1).bind fun v6 =>
    (sw_r1 v6).bind fun _u =>
    if v6 = 0 then
      (sw_sb T (b + 5) 7 p1 0).bind fun T10 =>
      (sw_st T10 (b + 4) 7 p1 0).bind fun T12 =>
      some ((0, T12))
    else
      (sw_sb T (b + 5) 7 p1 0).bind fun T14 =>
      (sw_st T14 (b + 4) 7 p1 0).bind fun T16 =>
      some ((1, T16))
theorem A28 {G : sp_G} {z n : Nat} (hn : 228 ≤ n) {b : Nat} (hb : b ∈ sw_rm) {T : sw_T} {K : sw_K} {p1 : Int} {res : Int × sw_T} {Q : sp_R → sp_M → Prop} (h : w28 b T p1 = some res) (kk : Q (.inl (some (.int (Int32.ofInt res.1)))) (sw_M z n sw_Ft res.2 K)) : sq_go G 28 0 [some (.ref (z + b)), some (.int (Int32.ofInt p1)), none] [] (sw_M z n sw_Ft T K) Q := by
  unfold w28 at h
  refine go_l qd28_0 rfl ?_
  refine go_l qd28_1 rfl ?_
  obtain ⟨r2, e1, h⟩ := sw_bind h
  refine ga_kv (a := b) (as := [.int (Int32.ofInt p1)]) (rest := []) qd28_2 qk28_74 (sw_rb hn hb) rfl rfl rfl (Nat.le_of_ble_eq_true rfl) (Nat.le_of_ble_eq_true rfl) rfl (A25 hn hb e1 (sw_bkv ?_))
  obtain ⟨_u, e3, h⟩ := sw_bind h
  by_cases hb4 : r2 = 0
  · replace h := sw_ifY hb4 h
    refine ga_zneY (t := 10) qd28_5 e3 hb4 rfl ?_
    refine go_s qd28_8 rfl ?_
    rw [← sw_sj h] at kk
    exact ga_ri qd28_9 qr28 kk
  · replace h := sw_ifN hb4 h
    refine ga_zneN (t := 10) qd28_5 e3 hb4 rfl ?_
    refine go_l qd28_10 rfl ?_
    refine ga_gf (v := .ref (z + (b + 5))) qd28_11 qc28 qf3_28 (sw_rb hn hb) rfl rfl ?_
    refine go_l qd28_14 rfl ?_
    obtain ⟨v6, e5, h⟩ := sw_bind h
    refine ga_bald qd28_15 (sw_rk hn hb 5 (by decide)) e5 ?_
    obtain ⟨_u, e7, h⟩ := sw_bind h
    by_cases hb8 : v6 = 0
    · replace h := sw_ifY hb8 h
      refine ga_zeqY (t := 23) qd28_16 e7 hb8 rfl ?_
      refine go_s qd28_23 rfl ?_
      refine go_l (L' := [some (.ref (z + b)), some (.int (Int32.ofInt p1)), some (.int (Int32.ofInt 0))]) (st' := []) qd28_24 rfl ?_
      refine go_l qd28_25 rfl ?_
      refine ga_gf (v := .ref (z + (b + 5))) qd28_26 qc28 qf3_28 (sw_rb hn hb) rfl rfl ?_
      refine go_l qd28_29 rfl ?_
      refine go_s qd28_30 rfl ?_
      obtain ⟨T10, e9, h⟩ := sw_bind h
      refine ga_bast qd28_31 (sw_rk hn hb 5 (by decide)) e9 ?_
      refine go_l qd28_32 rfl ?_
      refine ga_gf (v := .ref (z + (b + 4))) qd28_33 qc28 qf3_25 (sw_rb hn hb) rfl rfl ?_
      refine go_l qd28_36 rfl ?_
      refine go_s qd28_37 rfl ?_
      obtain ⟨T12, e11, h⟩ := sw_bind h
      refine ga_iast qd28_38 (sw_rk hn hb 4 (by decide)) e11 ?_
      refine go_l qd28_39 rfl ?_
      rw [← sw_sj h] at kk
      exact ga_ri qd28_40 qr28 kk
    · replace h := sw_ifN hb8 h
      refine ga_zeqN (t := 23) qd28_16 e7 hb8 rfl ?_
      refine go_s qd28_19 rfl ?_
      refine ga_jp (t := 24) qd28_20 rfl ?_
      refine go_l (L' := [some (.ref (z + b)), some (.int (Int32.ofInt p1)), some (.int (Int32.ofInt 1))]) (st' := []) qd28_24 rfl ?_
      refine go_l qd28_25 rfl ?_
      refine ga_gf (v := .ref (z + (b + 5))) qd28_26 qc28 qf3_28 (sw_rb hn hb) rfl rfl ?_
      refine go_l qd28_29 rfl ?_
      refine go_s qd28_30 rfl ?_
      obtain ⟨T14, e13, h⟩ := sw_bind h
      refine ga_bast qd28_31 (sw_rk hn hb 5 (by decide)) e13 ?_
      refine go_l qd28_32 rfl ?_
      refine ga_gf (v := .ref (z + (b + 4))) qd28_33 qc28 qf3_25 (sw_rb hn hb) rfl rfl ?_
      refine go_l qd28_36 rfl ?_
      refine go_s qd28_37 rfl ?_
      obtain ⟨T16, e15, h⟩ := sw_bind h
      refine ga_iast qd28_38 (sw_rk hn hb 4 (by decide)) e15 ?_
      refine go_l qd28_39 rfl ?_
      rw [← sw_sj h] at kk
      exact ga_ri qd28_40 qr28 kk
theorem qc29 : sq_c 29 = 3 := by decide +kernel
theorem qk29_78 : sw_ck 29 78 18 0 1 2 2 = true := by decide +kernel
theorem qf3_82 : (sp_fd sp_flT 3 82).or (sp_fd sp_fnT 3 82) = some (4, 0) := by decide +kernel
theorem qr29 : sq_ret 29 = some .boolean := by decide +kernel
-- 29: SewingPiles$Room.canLayOnto(I)Z
def w29 (b : Nat) (T : sw_T) (p1 : Int) : Option (Int) :=
  (w18 b T p1).bind fun r2 =>
  (sw_r2 r2 16).bind fun _u =>
  if r2 < 16 then
    (sw_r2 (T (b + 20) 0) 120).bind fun _u =>
    if (T (b + 20) 0) < 120 then
      some (1)
    else
      some (0)
  else
    some (0)
theorem A29 {G : sp_G} {z n : Nat} (hn : 228 ≤ n) {b : Nat} (hb : b ∈ sw_rm) {T : sw_T} {K : sw_K} {p1 : Int} {res : Int} {Q : sp_R → sp_M → Prop} (h : w29 b T p1 = some res) (kk : Q (.inl (some (.int (Int32.ofInt res)))) (sw_M z n sw_Ft T K)) : sq_go G 29 0 [some (.ref (z + b)), some (.int (Int32.ofInt p1))] [] (sw_M z n sw_Ft T K) Q := by
  unfold w29 at h
  refine go_l qd29_0 rfl ?_
  refine ga_gf (v := .ref (z + (b + 10))) qd29_1 qc29 qf3_47 (sw_rb hn hb) rfl rfl ?_
  refine go_l qd29_4 rfl ?_
  obtain ⟨r2, e1, h⟩ := sw_bind h
  refine ga_kv (a := (b + 10)) (as := [.int (Int32.ofInt p1)]) (rest := []) qd29_5 qk29_78 (sw_rk hn hb 10 (by decide)) rfl rfl rfl (Nat.le_of_ble_eq_true rfl) (Nat.le_of_ble_eq_true rfl) rfl (A18 hn hb e1 (sw_bkv ?_))
  refine ga_k8 qd29_8 rfl ?_
  obtain ⟨_u, e3, h⟩ := sw_bind h
  by_cases hb4 : r2 < 16
  · replace h := sw_ifY hb4 h
    refine ga_cgeY (t := 29) qd29_10 e3 hb4 rfl ?_
    refine go_l qd29_13 rfl ?_
    refine ga_gf (v := .ref (z + (b + 20))) qd29_14 qc29 qf3_54 (sw_rb hn hb) rfl rfl ?_
    refine ga_gf (v := .int (Int32.ofInt (T (b + 20) 0))) qd29_17 qc29 qf3_82 (sw_rk hn hb 20 (by decide)) rfl rfl ?_
    refine ga_k8 qd29_20 rfl ?_
    obtain ⟨_u, e5, h⟩ := sw_bind h
    by_cases hb6 : (T (b + 20) 0) < 120
    · replace h := sw_ifY hb6 h
      refine ga_cgeY (t := 29) qd29_22 e5 hb6 rfl ?_
      refine go_s qd29_25 rfl ?_
      refine ga_jp (t := 30) qd29_26 rfl ?_
      rw [← sw_sj h] at kk
      exact ga_rb (u := ()) qd29_30 qr29 (by decide) kk
    · replace h := sw_ifN hb6 h
      refine ga_cgeN (t := 29) qd29_22 e5 hb6 rfl ?_
      refine go_s qd29_29 rfl ?_
      rw [← sw_sj h] at kk
      exact ga_rb (u := ()) qd29_30 qr29 (by decide) kk
  · replace h := sw_ifN hb4 h
    refine ga_cgeN (t := 29) qd29_10 e3 hb4 rfl ?_
    refine go_s qd29_29 rfl ?_
    rw [← sw_sj h] at kk
    exact ga_rb (u := ()) qd29_30 qr29 (by decide) kk
theorem qc52 : sq_c 52 = 4 := by decide +kernel
theorem qr52 : sq_ret 52 = some .int := by decide +kernel
-- 52: SewingPiles$Shirts.add(II)I
def w52 (b : Nat) (T : sw_T) (p1 : Int) (p2 : Int) : Option (Int × sw_T) :=
  (sw_r1 (T (b + 20) 0)).bind fun _u =>
  if (T (b + 20) 0) < 0 then
    some (((-1), T))
  else
    (sw_r2 (T (b + 20) 0) 120).bind fun _u =>
    if (T (b + 20) 0) < 120 then
      (sw_st T (b + 21) 120 (T (b + 20) 0) p2).bind fun T6 =>
      (sw_st T6 (b + 22) 120 (T6 (b + 20) 0) 0).bind fun T8 =>
      (sw_st T8 (b + 23) 120 (T8 (b + 20) 0) p1).bind fun T10 =>
      (sw_pf T10 (b + 20) 0 ((T10 (b + 20) 0) + 1)).bind fun T11 =>
      some ((((T11 (b + 20) 0) - 1), T11))
    else
      some (((-1), T))
theorem A52 {G : sp_G} {z n : Nat} (hn : 228 ≤ n) {b : Nat} (hb : b ∈ sw_rm) {T : sw_T} {K : sw_K} {p1 : Int} {p2 : Int} {res : Int × sw_T} {Q : sp_R → sp_M → Prop} (h : w52 b T p1 p2 = some res) (kk : Q (.inl (some (.int (Int32.ofInt res.1)))) (sw_M z n sw_Ft res.2 K)) : sq_go G 52 0 [some (.ref (z + (b + 20))), some (.int (Int32.ofInt p1)), some (.int (Int32.ofInt p2))] [] (sw_M z n sw_Ft T K) Q := by
  unfold w52 at h
  refine go_l qd52_0 rfl ?_
  refine ga_gf (v := .int (Int32.ofInt (T (b + 20) 0))) qd52_1 qc52 qf4_21 (sw_rk hn hb 20 (by decide)) rfl rfl ?_
  obtain ⟨_u, e1, h⟩ := sw_bind h
  by_cases hb2 : (T (b + 20) 0) < 0
  · replace h := sw_ifY hb2 h
    refine ga_zltY (t := 16) qd52_4 e1 hb2 rfl ?_
    refine go_s qd52_16 rfl ?_
    rw [← sw_sj h] at kk
    exact ga_ri qd52_17 qr52 kk
  · replace h := sw_ifN hb2 h
    refine ga_zltN (t := 16) qd52_4 e1 hb2 rfl ?_
    refine go_l qd52_7 rfl ?_
    refine ga_gf (v := .int (Int32.ofInt (T (b + 20) 0))) qd52_8 qc52 qf4_21 (sw_rk hn hb 20 (by decide)) rfl rfl ?_
    refine ga_k8 qd52_11 rfl ?_
    obtain ⟨_u, e3, h⟩ := sw_bind h
    by_cases hb4 : (T (b + 20) 0) < 120
    · replace h := sw_ifY hb4 h
      refine ga_cltY (t := 18) qd52_13 e3 hb4 rfl ?_
      refine go_l qd52_18 rfl ?_
      refine ga_gf (v := .ref (z + (b + 21))) qd52_19 qc52 qf4_9 (sw_rk hn hb 20 (by decide)) rfl rfl ?_
      refine go_l qd52_22 rfl ?_
      refine ga_gf (v := .int (Int32.ofInt (T (b + 20) 0))) qd52_23 qc52 qf4_21 (sw_rk hn hb 20 (by decide)) rfl rfl ?_
      refine go_l qd52_26 rfl ?_
      obtain ⟨T6, e5, h⟩ := sw_bind h
      refine ga_iast qd52_27 (sw_rk hn hb 21 (by decide)) e5 ?_
      refine go_l qd52_28 rfl ?_
      refine ga_gf (v := .ref (z + (b + 22))) qd52_29 qc52 qf4_15 (sw_rk hn hb 20 (by decide)) rfl rfl ?_
      refine go_l qd52_32 rfl ?_
      refine ga_gf (v := .int (Int32.ofInt (T6 (b + 20) 0))) qd52_33 qc52 qf4_21 (sw_rk hn hb 20 (by decide)) rfl rfl ?_
      refine go_s qd52_36 rfl ?_
      obtain ⟨T8, e7, h⟩ := sw_bind h
      refine ga_iast qd52_37 (sw_rk hn hb 22 (by decide)) e7 ?_
      refine go_l qd52_38 rfl ?_
      refine ga_gf (v := .ref (z + (b + 23))) qd52_39 qc52 qf4_18 (sw_rk hn hb 20 (by decide)) rfl rfl ?_
      refine go_l qd52_42 rfl ?_
      refine ga_gf (v := .int (Int32.ofInt (T8 (b + 20) 0))) qd52_43 qc52 qf4_21 (sw_rk hn hb 20 (by decide)) rfl rfl ?_
      refine go_l qd52_46 rfl ?_
      obtain ⟨T10, e9, h⟩ := sw_bind h
      refine ga_iast qd52_47 (sw_rk hn hb 23 (by decide)) e9 ?_
      refine go_l qd52_48 rfl ?_
      refine go_s qd52_49 rfl ?_
      refine ga_gf (v := .int (Int32.ofInt (T10 (b + 20) 0))) qd52_50 qc52 qf4_21 (sw_rk hn hb 20 (by decide)) rfl rfl ?_
      refine go_s qd52_53 rfl ?_
      refine ga_iadd qd52_54 ?_
      obtain ⟨T11, e12, h⟩ := sw_bind h
      refine ga_pfi qd52_55 qc52 qg4_21 (sw_rk hn hb 20 (by decide)) rfl qi4_0 e12 ?_
      refine go_l qd52_58 rfl ?_
      refine ga_gf (v := .int (Int32.ofInt (T11 (b + 20) 0))) qd52_59 qc52 qf4_21 (sw_rk hn hb 20 (by decide)) rfl rfl ?_
      refine go_s qd52_62 rfl ?_
      refine ga_isub qd52_63 ?_
      rw [← sw_sj h] at kk
      exact ga_ri qd52_64 qr52 kk
    · replace h := sw_ifN hb4 h
      refine ga_cltN (t := 18) qd52_13 e3 hb4 rfl ?_
      refine go_s qd52_16 rfl ?_
      rw [← sw_sj h] at kk
      exact ga_ri qd52_17 qr52 kk
theorem qc31 : sq_c 31 = 3 := by decide +kernel
theorem qr31 : sq_ret 31 = none := by decide +kernel
-- 31: SewingPiles$Room.wakeFirstSleeper()V
def w31_2 (b : Nat) (T : sw_T) : Nat → Int → Option ((Unit) ⊕ (sw_T))
  | 0, _ => none
  | m + 1, l1 =>
    (sw_r2 l1 (T b 1)).bind fun _u =>
    if l1 < (T b 1) then
      (sw_r2 l1 7).bind fun _u =>
      if l1 < 7 then
        (sw_ld T (b + 5) 7 l1).bind fun v6 =>
        (sw_r1 v6).bind fun _u =>
        if v6 = 0 then
          w31_2 b T m (l1 + 1)
        else
          (sw_sb T (b + 5) 7 l1 0).bind fun T10 =>
          (sw_st T10 (b + 4) 7 l1 0).bind fun T12 =>
          some (.inr (T12))
      else
        some (.inl ())
    else
      some (.inl ())
theorem B31_2 {G : sp_G} {z n : Nat} (hn : 228 ≤ n) {b : Nat} (hb : b ∈ sw_rm) {T : sw_T} {K : sw_K} {res : (Unit) ⊕ (sw_T)} {Q : sp_R → sp_M → Prop} (kk : ∀ s, res = .inl s → sq_go G 31 46 [none, none] [] (sw_M z n sw_Ft T K) Q) (kr : ∀ r, res = .inr r → Q (.inl none) (sw_M z n sw_Ft r K)) : ∀ (m : Nat) (l1 : Int), w31_2 b T m l1 = some res → sq_go G 31 2 [some (.ref (z + b)), some (.int (Int32.ofInt l1))] [] (sw_M z n sw_Ft T K) Q := by
  intro m
  induction m with
  | zero => intro l1 h; cases h
  | succ m ih =>
    intro l1 h
    rw [w31_2] at h
    refine go_l qd31_2 rfl ?_
    refine go_l qd31_3 rfl ?_
    refine ga_gf (v := .int (Int32.ofInt (T b 1))) qd31_4 qc31 qf3_9 (sw_rb hn hb) rfl rfl ?_
    obtain ⟨_u, e1, h⟩ := sw_bind h
    by_cases hb2 : l1 < (T b 1)
    · replace h := sw_ifY hb2 h
      refine ga_cgeY (t := 46) qd31_7 e1 hb2 rfl ?_
      refine go_l qd31_10 rfl ?_
      refine ga_k8 qd31_11 rfl ?_
      obtain ⟨_u, e3, h⟩ := sw_bind h
      by_cases hb4 : l1 < 7
      · replace h := sw_ifY hb4 h
        refine ga_cgeY (t := 46) qd31_13 e3 hb4 rfl ?_
        refine go_l qd31_16 rfl ?_
        refine ga_gf (v := .ref (z + (b + 5))) qd31_17 qc31 qf3_28 (sw_rb hn hb) rfl rfl ?_
        refine go_l qd31_20 rfl ?_
        obtain ⟨v6, e5, h⟩ := sw_bind h
        refine ga_bald qd31_21 (sw_rk hn hb 5 (by decide)) e5 ?_
        obtain ⟨_u, e7, h⟩ := sw_bind h
        by_cases hb8 : v6 = 0
        · replace h := sw_ifY hb8 h
          refine ga_zeqY (t := 40) qd31_22 e7 hb8 rfl ?_
          refine ga_ii (L' := [some (.ref (z + b)), some (.int (Int32.ofInt (l1 + 1)))]) qd31_40 rfl rfl ?_
          refine ga_jp (t := 2) qd31_43 rfl ?_
          exact sq_weak (L := [some (.ref (z + b)), some (.int (Int32.ofInt (l1 + 1)))]) ⟨rfl, rfl, trivial⟩ (ih _ h)
        · replace h := sw_ifN hb8 h
          refine ga_zeqN (t := 40) qd31_22 e7 hb8 rfl ?_
          refine go_l qd31_25 rfl ?_
          refine ga_gf (v := .ref (z + (b + 5))) qd31_26 qc31 qf3_28 (sw_rb hn hb) rfl rfl ?_
          refine go_l qd31_29 rfl ?_
          refine go_s qd31_30 rfl ?_
          obtain ⟨T10, e9, h⟩ := sw_bind h
          refine ga_bast qd31_31 (sw_rk hn hb 5 (by decide)) e9 ?_
          refine go_l qd31_32 rfl ?_
          refine ga_gf (v := .ref (z + (b + 4))) qd31_33 qc31 qf3_25 (sw_rb hn hb) rfl rfl ?_
          refine go_l qd31_36 rfl ?_
          refine go_s qd31_37 rfl ?_
          obtain ⟨T12, e11, h⟩ := sw_bind h
          refine ga_iast qd31_38 (sw_rk hn hb 4 (by decide)) e11 ?_
          exact ga_rv qd31_39 qr31 (kr _ (sw_sj h).symm)
      · replace h := sw_ifN hb4 h
        refine ga_cgeN (t := 46) qd31_13 e3 hb4 rfl ?_
        exact sq_weak (L := [none, none]) trivial (kk _ (sw_sj h).symm)
    · replace h := sw_ifN hb2 h
      refine ga_cgeN (t := 46) qd31_7 e1 hb2 rfl ?_
      exact sq_weak (L := [none, none]) trivial (kk _ (sw_sj h).symm)
def w31 (b : Nat) (T : sw_T) : Option (sw_T) :=
  (w31_2 b T sw_N 0).bind fun x13 =>
  sw_el x13 (fun x15 =>
    some (T)
  ) (fun r => some r)
theorem A31 {G : sp_G} {z n : Nat} (hn : 228 ≤ n) {b : Nat} (hb : b ∈ sw_rm) {T : sw_T} {K : sw_K} {res : sw_T} {Q : sp_R → sp_M → Prop} (h : w31 b T = some res) (kk : Q (.inl none) (sw_M z n sw_Ft res K)) : sq_go G 31 0 [some (.ref (z + b)), none] [] (sw_M z n sw_Ft T K) Q := by
  unfold w31 at h
  refine go_s qd31_0 rfl ?_
  refine go_l (L' := [some (.ref (z + b)), some (.int (Int32.ofInt 0))]) (st' := []) qd31_1 rfl ?_
  obtain ⟨x13, e14, h⟩ := sw_bind h
  refine sq_weak (L := [some (.ref (z + b)), some (.int (Int32.ofInt 0))]) ⟨rfl, rfl, trivial⟩ (B31_2 hn hb (res := x13) (fun x15 g16 => ?_) (fun r g16 => ?_) _ _ e14)
  · replace h := sw_elL g16 h
    rw [← sw_sj h] at kk
    exact ga_rv qd31_46 qr31 kk
  · replace h := sw_elR g16 h
    rw [← sw_sj h] at kk
    exact kk
theorem qc30 : sq_c 30 = 3 := by decide +kernel
theorem qk30_85 : sw_ck 30 85 52 0 2 4 3 = true := by decide +kernel
theorem qk30_89 : sw_ck 30 89 20 0 2 2 4 = true := by decide +kernel
theorem qk30_93 : sw_ck 30 93 31 0 0 3 2 = true := by decide +kernel
theorem qr30 : sq_ret 30 = some .int := by decide +kernel
-- 30: SewingPiles$Room.layNewShirt(II)I
def w30 (b : Nat) (T : sw_T) (p1 : Int) (p2 : Int) : Option (Int × sw_T) :=
  (w52 b T p1 p2).bind fun r2 =>
  (w20 b r2.2 p1 r2.1).bind fun r4 =>
  (w31 b r4).bind fun r6 =>
  some ((r2.1, r6))
theorem A30 {G : sp_G} {z n : Nat} (hn : 228 ≤ n) {b : Nat} (hb : b ∈ sw_rm) {T : sw_T} {K : sw_K} {p1 : Int} {p2 : Int} {res : Int × sw_T} {Q : sp_R → sp_M → Prop} (h : w30 b T p1 p2 = some res) (kk : Q (.inl (some (.int (Int32.ofInt res.1)))) (sw_M z n sw_Ft res.2 K)) : sq_go G 30 0 [some (.ref (z + b)), some (.int (Int32.ofInt p1)), some (.int (Int32.ofInt p2)), none] [] (sw_M z n sw_Ft T K) Q := by
  unfold w30 at h
  refine go_l qd30_0 rfl ?_
  refine ga_gf (v := .ref (z + (b + 20))) qd30_1 qc30 qf3_54 (sw_rb hn hb) rfl rfl ?_
  refine go_l qd30_4 rfl ?_
  refine go_l qd30_5 rfl ?_
  obtain ⟨r2, e1, h⟩ := sw_bind h
  refine ga_kv (a := (b + 20)) (as := [.int (Int32.ofInt p1), .int (Int32.ofInt p2)]) (rest := []) qd30_6 qk30_85 (sw_rk hn hb 20 (by decide)) rfl rfl rfl (Nat.le_of_ble_eq_true rfl) (Nat.le_of_ble_eq_true rfl) rfl (A52 hn hb e1 (sw_bkv ?_))
  refine go_l (L' := [some (.ref (z + b)), some (.int (Int32.ofInt p1)), some (.int (Int32.ofInt p2)), some (.int (Int32.ofInt r2.1))]) (st' := []) qd30_9 rfl ?_
  refine go_l qd30_10 rfl ?_
  refine ga_gf (v := .ref (z + (b + 10))) qd30_11 qc30 qf3_47 (sw_rb hn hb) rfl rfl ?_
  refine go_l qd30_14 rfl ?_
  refine go_l qd30_15 rfl ?_
  obtain ⟨r4, e3, h⟩ := sw_bind h
  refine ga_kv (a := (b + 10)) (as := [.int (Int32.ofInt p1), .int (Int32.ofInt r2.1)]) (rest := []) qd30_16 qk30_89 (sw_rk hn hb 10 (by decide)) rfl rfl rfl (Nat.le_of_ble_eq_true rfl) (Nat.le_of_ble_eq_true rfl) rfl (A20 hn hb e3 (sw_bk0 ?_))
  refine go_l qd30_19 rfl ?_
  obtain ⟨r6, e5, h⟩ := sw_bind h
  refine ga_kv (a := b) (as := []) (rest := []) qd30_20 qk30_93 (sw_rb hn hb) rfl rfl rfl (Nat.le_of_ble_eq_true rfl) (Nat.le_of_ble_eq_true rfl) rfl (A31 hn hb e5 (sw_bk0 ?_))
  refine go_l qd30_23 rfl ?_
  rw [← sw_sj h] at kk
  exact ga_ri qd30_24 qr30 kk
theorem qr53 : sq_ret 53 = some .int := by decide +kernel
theorem qc53 : sq_c 53 = 4 := by decide +kernel
-- 53: SewingPiles$Shirts.workOf(I)I
def w53 (b : Nat) (T : sw_T) (p1 : Int) : Option (Int) :=
  (sw_r1 p1).bind fun _u =>
  if p1 < 0 then
    some (0)
  else
    (sw_r2 p1 (T (b + 20) 0)).bind fun _u =>
    if p1 < (T (b + 20) 0) then
      (sw_r2 p1 120).bind fun _u =>
      if p1 < 120 then
        (sw_ld T (b + 21) 120 p1).bind fun v8 =>
        some (v8)
      else
        some (0)
    else
      some (0)
theorem A53 {G : sp_G} {z n : Nat} (hn : 228 ≤ n) {b : Nat} (hb : b ∈ sw_rm) {T : sw_T} {K : sw_K} {p1 : Int} {res : Int} {Q : sp_R → sp_M → Prop} (h : w53 b T p1 = some res) (kk : Q (.inl (some (.int (Int32.ofInt res)))) (sw_M z n sw_Ft T K)) : sq_go G 53 0 [some (.ref (z + (b + 20))), some (.int (Int32.ofInt p1))] [] (sw_M z n sw_Ft T K) Q := by
  unfold w53 at h
  refine go_l qd53_0 rfl ?_
  obtain ⟨_u, e1, h⟩ := sw_bind h
  by_cases hb2 : p1 < 0
  · replace h := sw_ifY hb2 h
    refine ga_zltY (t := 27) qd53_1 e1 hb2 rfl ?_
    refine go_s qd53_27 rfl ?_
    rw [← sw_sj h] at kk
    exact ga_ri qd53_28 qr53 kk
  · replace h := sw_ifN hb2 h
    refine ga_zltN (t := 27) qd53_1 e1 hb2 rfl ?_
    refine go_l qd53_4 rfl ?_
    refine go_l qd53_5 rfl ?_
    refine ga_gf (v := .int (Int32.ofInt (T (b + 20) 0))) qd53_6 qc53 qf4_21 (sw_rk hn hb 20 (by decide)) rfl rfl ?_
    obtain ⟨_u, e3, h⟩ := sw_bind h
    by_cases hb4 : p1 < (T (b + 20) 0)
    · replace h := sw_ifY hb4 h
      refine ga_cgeY (t := 27) qd53_9 e3 hb4 rfl ?_
      refine go_l qd53_12 rfl ?_
      refine ga_k8 qd53_13 rfl ?_
      obtain ⟨_u, e5, h⟩ := sw_bind h
      by_cases hb6 : p1 < 120
      · replace h := sw_ifY hb6 h
        refine ga_cgeY (t := 27) qd53_15 e5 hb6 rfl ?_
        refine go_l qd53_18 rfl ?_
        refine ga_gf (v := .ref (z + (b + 21))) qd53_19 qc53 qf4_9 (sw_rk hn hb 20 (by decide)) rfl rfl ?_
        refine go_l qd53_22 rfl ?_
        obtain ⟨v8, e7, h⟩ := sw_bind h
        refine ga_iald qd53_23 (sw_rk hn hb 21 (by decide)) e7 ?_
        refine ga_jp (t := 28) qd53_24 rfl ?_
        rw [← sw_sj h] at kk
        exact ga_ri qd53_28 qr53 kk
      · replace h := sw_ifN hb6 h
        refine ga_cgeN (t := 27) qd53_15 e5 hb6 rfl ?_
        refine go_s qd53_27 rfl ?_
        rw [← sw_sj h] at kk
        exact ga_ri qd53_28 qr53 kk
    · replace h := sw_ifN hb4 h
      refine ga_cgeN (t := 27) qd53_9 e3 hb4 rfl ?_
      refine go_s qd53_27 rfl ?_
      rw [← sw_sj h] at kk
      exact ga_ri qd53_28 qr53 kk
theorem qr51 : sq_ret 51 = some .boolean := by decide +kernel
theorem qc51 : sq_c 51 = 4 := by decide +kernel
-- 51: SewingPiles$Shirts.has(I)Z
def w51 (b : Nat) (T : sw_T) (p1 : Int) : Option (Int) :=
  (sw_r1 p1).bind fun _u =>
  if p1 < 0 then
    some (0)
  else
    (sw_r2 p1 (T (b + 20) 0)).bind fun _u =>
    if p1 < (T (b + 20) 0) then
      (sw_r2 p1 120).bind fun _u =>
      if p1 < 120 then
        some (1)
      else
        some (0)
    else
      some (0)
theorem A51 {G : sp_G} {z n : Nat} (hn : 228 ≤ n) {b : Nat} (hb : b ∈ sw_rm) {T : sw_T} {K : sw_K} {p1 : Int} {res : Int} {Q : sp_R → sp_M → Prop} (h : w51 b T p1 = some res) (kk : Q (.inl (some (.int (Int32.ofInt res)))) (sw_M z n sw_Ft T K)) : sq_go G 51 0 [some (.ref (z + (b + 20))), some (.int (Int32.ofInt p1))] [] (sw_M z n sw_Ft T K) Q := by
  unfold w51 at h
  refine go_l qd51_0 rfl ?_
  obtain ⟨_u, e1, h⟩ := sw_bind h
  by_cases hb2 : p1 < 0
  · replace h := sw_ifY hb2 h
    refine ga_zltY (t := 22) qd51_1 e1 hb2 rfl ?_
    refine go_s qd51_22 rfl ?_
    rw [← sw_sj h] at kk
    exact ga_rb (u := ()) qd51_23 qr51 (by decide) kk
  · replace h := sw_ifN hb2 h
    refine ga_zltN (t := 22) qd51_1 e1 hb2 rfl ?_
    refine go_l qd51_4 rfl ?_
    refine go_l qd51_5 rfl ?_
    refine ga_gf (v := .int (Int32.ofInt (T (b + 20) 0))) qd51_6 qc51 qf4_21 (sw_rk hn hb 20 (by decide)) rfl rfl ?_
    obtain ⟨_u, e3, h⟩ := sw_bind h
    by_cases hb4 : p1 < (T (b + 20) 0)
    · replace h := sw_ifY hb4 h
      refine ga_cgeY (t := 22) qd51_9 e3 hb4 rfl ?_
      refine go_l qd51_12 rfl ?_
      refine ga_k8 qd51_13 rfl ?_
      obtain ⟨_u, e5, h⟩ := sw_bind h
      by_cases hb6 : p1 < 120
      · replace h := sw_ifY hb6 h
        refine ga_cgeY (t := 22) qd51_15 e5 hb6 rfl ?_
        refine go_s qd51_18 rfl ?_
        refine ga_jp (t := 23) qd51_19 rfl ?_
        rw [← sw_sj h] at kk
        exact ga_rb (u := ()) qd51_23 qr51 (by decide) kk
      · replace h := sw_ifN hb6 h
        refine ga_cgeN (t := 22) qd51_15 e5 hb6 rfl ?_
        refine go_s qd51_22 rfl ?_
        rw [← sw_sj h] at kk
        exact ga_rb (u := ()) qd51_23 qr51 (by decide) kk
    · replace h := sw_ifN hb4 h
      refine ga_cgeN (t := 22) qd51_9 e3 hb4 rfl ?_
      refine go_s qd51_22 rfl ?_
      rw [← sw_sj h] at kk
      exact ga_rb (u := ()) qd51_23 qr51 (by decide) kk
theorem qk54_25 : sw_ck 54 25 51 0 1 4 2 = true := by decide +kernel
theorem qr54 : sq_ret 54 = none := by decide +kernel
theorem qc54 : sq_c 54 = 4 := by decide +kernel
-- 54: SewingPiles$Shirts.setWork(II)V
def w54 (b : Nat) (T : sw_T) (p1 : Int) (p2 : Int) : Option (sw_T) :=
  (w51 b T p1).bind fun r2 =>
  (sw_r1 r2).bind fun _u =>
  if r2 = 0 then
    some (T)
  else
    (sw_st T (b + 21) 120 p1 p2).bind fun T6 =>
    some (T6)
theorem A54 {G : sp_G} {z n : Nat} (hn : 228 ≤ n) {b : Nat} (hb : b ∈ sw_rm) {T : sw_T} {K : sw_K} {p1 : Int} {p2 : Int} {res : sw_T} {Q : sp_R → sp_M → Prop} (h : w54 b T p1 p2 = some res) (kk : Q (.inl none) (sw_M z n sw_Ft res K)) : sq_go G 54 0 [some (.ref (z + (b + 20))), some (.int (Int32.ofInt p1)), some (.int (Int32.ofInt p2))] [] (sw_M z n sw_Ft T K) Q := by
  unfold w54 at h
  refine go_l qd54_0 rfl ?_
  refine go_l qd54_1 rfl ?_
  obtain ⟨r2, e1, h⟩ := sw_bind h
  refine ga_kv (a := (b + 20)) (as := [.int (Int32.ofInt p1)]) (rest := []) qd54_2 qk54_25 (sw_rk hn hb 20 (by decide)) rfl rfl rfl (Nat.le_of_ble_eq_true rfl) (Nat.le_of_ble_eq_true rfl) rfl (A51 hn hb e1 (sw_bkv ?_))
  obtain ⟨_u, e3, h⟩ := sw_bind h
  by_cases hb4 : r2 = 0
  · replace h := sw_ifY hb4 h
    refine ga_zeqY (t := 15) qd54_5 e3 hb4 rfl ?_
    rw [← sw_sj h] at kk
    exact ga_rv qd54_15 qr54 kk
  · replace h := sw_ifN hb4 h
    refine ga_zeqN (t := 15) qd54_5 e3 hb4 rfl ?_
    refine go_l qd54_8 rfl ?_
    refine ga_gf (v := .ref (z + (b + 21))) qd54_9 qc54 qf4_9 (sw_rk hn hb 20 (by decide)) rfl rfl ?_
    refine go_l qd54_12 rfl ?_
    refine go_l qd54_13 rfl ?_
    obtain ⟨T6, e5, h⟩ := sw_bind h
    refine ga_iast qd54_14 (sw_rk hn hb 21 (by decide)) e5 ?_
    rw [← sw_sj h] at kk
    exact ga_rv qd54_15 qr54 kk
theorem qk55_25 : sw_ck 55 25 51 0 1 4 2 = true := by decide +kernel
theorem qr55 : sq_ret 55 = none := by decide +kernel
theorem qc55 : sq_c 55 = 4 := by decide +kernel
-- 55: SewingPiles$Shirts.move(III)V
def w55 (b : Nat) (T : sw_T) (p1 : Int) (p2 : Int) (p3 : Int) : Option (sw_T) :=
  (w51 b T p1).bind fun r2 =>
  (sw_r1 r2).bind fun _u =>
  if r2 = 0 then
    some (T)
  else
    (sw_st T (b + 22) 120 p1 p2).bind fun T6 =>
    (sw_st T6 (b + 23) 120 p1 p3).bind fun T8 =>
    some (T8)
theorem A55 {G : sp_G} {z n : Nat} (hn : 228 ≤ n) {b : Nat} (hb : b ∈ sw_rm) {T : sw_T} {K : sw_K} {p1 : Int} {p2 : Int} {p3 : Int} {res : sw_T} {Q : sp_R → sp_M → Prop} (h : w55 b T p1 p2 p3 = some res) (kk : Q (.inl none) (sw_M z n sw_Ft res K)) : sq_go G 55 0 [some (.ref (z + (b + 20))), some (.int (Int32.ofInt p1)), some (.int (Int32.ofInt p2)), some (.int (Int32.ofInt p3))] [] (sw_M z n sw_Ft T K) Q := by
  unfold w55 at h
  refine go_l qd55_0 rfl ?_
  refine go_l qd55_1 rfl ?_
  obtain ⟨r2, e1, h⟩ := sw_bind h
  refine ga_kv (a := (b + 20)) (as := [.int (Int32.ofInt p1)]) (rest := []) qd55_2 qk55_25 (sw_rk hn hb 20 (by decide)) rfl rfl rfl (Nat.le_of_ble_eq_true rfl) (Nat.le_of_ble_eq_true rfl) rfl (A51 hn hb e1 (sw_bkv ?_))
  obtain ⟨_u, e3, h⟩ := sw_bind h
  by_cases hb4 : r2 = 0
  · replace h := sw_ifY hb4 h
    refine ga_zeqY (t := 22) qd55_5 e3 hb4 rfl ?_
    rw [← sw_sj h] at kk
    exact ga_rv qd55_22 qr55 kk
  · replace h := sw_ifN hb4 h
    refine ga_zeqN (t := 22) qd55_5 e3 hb4 rfl ?_
    refine go_l qd55_8 rfl ?_
    refine ga_gf (v := .ref (z + (b + 22))) qd55_9 qc55 qf4_15 (sw_rk hn hb 20 (by decide)) rfl rfl ?_
    refine go_l qd55_12 rfl ?_
    refine go_l qd55_13 rfl ?_
    obtain ⟨T6, e5, h⟩ := sw_bind h
    refine ga_iast qd55_14 (sw_rk hn hb 22 (by decide)) e5 ?_
    refine go_l qd55_15 rfl ?_
    refine ga_gf (v := .ref (z + (b + 23))) qd55_16 qc55 qf4_18 (sw_rk hn hb 20 (by decide)) rfl rfl ?_
    refine go_l qd55_19 rfl ?_
    refine go_l qd55_20 rfl ?_
    obtain ⟨T8, e7, h⟩ := sw_bind h
    refine ga_iast qd55_21 (sw_rk hn hb 23 (by decide)) e7 ?_
    rw [← sw_sj h] at kk
    exact ga_rv qd55_22 qr55 kk
theorem qk35_74 : sw_ck 35 74 25 0 1 3 2 = true := by decide +kernel
theorem qr35 : sq_ret 35 = none := by decide +kernel
theorem qc35 : sq_c 35 = 3 := by decide +kernel
theorem qk35_123 : sw_ck 35 123 53 0 1 4 2 = true := by decide +kernel
theorem qk35_126 : sw_ck 35 126 54 0 2 4 3 = true := by decide +kernel
theorem qk35_129 : sw_ck 35 129 55 0 3 4 4 = true := by decide +kernel
-- 35: SewingPiles$Room.sew(I)V
def w35_46 (b : Nat) (T : sw_T) (l1 : Int) (l2 : Int) (l3 : Int) (s1 : Int) (s2 : Int) : Option (sw_T) :=
  (w54 b T s1 s2).bind fun r14 =>
  (sw_r1 l3).bind fun _u =>
  if 0 < l3 then
    some (r14)
  else
    (w55 b r14 l2 2 l1).bind fun r18 =>
    (sw_st r18 (b + 3) 7 l1 (-1)).bind fun T20 =>
    (sw_ld T20 (b + 6) 7 l1).bind fun v22 =>
    (sw_st T20 (b + 6) 7 l1 (v22 + 1)).bind fun T24 =>
    some (T24)
theorem B35_46 {G : sp_G} {z n : Nat} (hn : 228 ≤ n) {b : Nat} (hb : b ∈ sw_rm) {T : sw_T} {K : sw_K} {l1 : Int} {l2 : Int} {l3 : Int} {s1 : Int} {s2 : Int} {res : sw_T} {Q : sp_R → sp_M → Prop} (h : w35_46 b T l1 l2 l3 s1 s2 = some res) (kk : Q (.inl none) (sw_M z n sw_Ft res K)) : sq_go G 35 46 [some (.ref (z + b)), some (.int (Int32.ofInt l1)), some (.int (Int32.ofInt l2)), some (.int (Int32.ofInt l3))] [.int (Int32.ofInt s2), .int (Int32.ofInt s1), .ref (z + (b + 20))] (sw_M z n sw_Ft T K) Q := by
  unfold w35_46 at h
  obtain ⟨r14, e13, h⟩ := sw_bind h
  refine ga_kv (a := (b + 20)) (as := [.int (Int32.ofInt s1), .int (Int32.ofInt s2)]) (rest := []) qd35_46 qk35_126 (sw_rk hn hb 20 (by decide)) rfl rfl rfl (Nat.le_of_ble_eq_true rfl) (Nat.le_of_ble_eq_true rfl) rfl (A54 hn hb e13 (sw_bk0 ?_))
  refine go_l qd35_49 rfl ?_
  obtain ⟨_u, e15, h⟩ := sw_bind h
  by_cases hb16 : 0 < l3
  · replace h := sw_ifY hb16 h
    refine ga_zgtY (t := 80) qd35_50 e15 hb16 rfl ?_
    rw [← sw_sj h] at kk
    exact ga_rv qd35_80 qr35 kk
  · replace h := sw_ifN hb16 h
    refine ga_zgtN (t := 80) qd35_50 e15 hb16 rfl ?_
    refine go_l qd35_53 rfl ?_
    refine ga_gf (v := .ref (z + (b + 20))) qd35_54 qc35 qf3_54 (sw_rb hn hb) rfl rfl ?_
    refine go_l qd35_57 rfl ?_
    refine go_s qd35_58 rfl ?_
    refine go_l qd35_59 rfl ?_
    obtain ⟨r18, e17, h⟩ := sw_bind h
    refine ga_kv (a := (b + 20)) (as := [.int (Int32.ofInt l2), .int (Int32.ofInt 2), .int (Int32.ofInt l1)]) (rest := []) qd35_60 qk35_129 (sw_rk hn hb 20 (by decide)) rfl rfl rfl (Nat.le_of_ble_eq_true rfl) (Nat.le_of_ble_eq_true rfl) rfl (A55 hn hb e17 (sw_bk0 ?_))
    refine go_l qd35_63 rfl ?_
    refine ga_gf (v := .ref (z + (b + 3))) qd35_64 qc35 qf3_22 (sw_rb hn hb) rfl rfl ?_
    refine go_l qd35_67 rfl ?_
    refine go_s qd35_68 rfl ?_
    obtain ⟨T20, e19, h⟩ := sw_bind h
    refine ga_iast qd35_69 (sw_rk hn hb 3 (by decide)) e19 ?_
    refine go_l qd35_70 rfl ?_
    refine ga_gf (v := .ref (z + (b + 6))) qd35_71 qc35 qf3_32 (sw_rb hn hb) rfl rfl ?_
    refine go_l qd35_74 rfl ?_
    refine go_s qd35_75 rfl ?_
    obtain ⟨v22, e21, h⟩ := sw_bind h
    refine ga_iald qd35_76 (sw_rk hn hb 6 (by decide)) e21 ?_
    refine go_s qd35_77 rfl ?_
    refine ga_iadd qd35_78 ?_
    obtain ⟨T24, e23, h⟩ := sw_bind h
    refine ga_iast qd35_79 (sw_rk hn hb 6 (by decide)) e23 ?_
    rw [← sw_sj h] at kk
    exact ga_rv qd35_80 qr35 kk
def w35 (b : Nat) (T : sw_T) (p1 : Int) : Option (sw_T) :=
  (w25 b T p1).bind fun r2 =>
  (sw_r1 r2).bind fun _u =>
  if r2 = 0 then
    some (T)
  else
    (sw_ld T (b + 3) 7 p1).bind fun v6 =>
    (w53 b T v6).bind fun r8 =>
    (sw_ld T (b + 2) 7 p1).bind fun v10 =>
    (sw_r1 (r8 - v10)).bind fun _u =>
    if 0 < (r8 - v10) then
      w35_46 b T p1 v6 (r8 - v10) v6 (r8 - v10)
    else
      w35_46 b T p1 v6 (r8 - v10) v6 0
theorem A35 {G : sp_G} {z n : Nat} (hn : 228 ≤ n) {b : Nat} (hb : b ∈ sw_rm) {T : sw_T} {K : sw_K} {p1 : Int} {res : sw_T} {Q : sp_R → sp_M → Prop} (h : w35 b T p1 = some res) (kk : Q (.inl none) (sw_M z n sw_Ft res K)) : sq_go G 35 0 [some (.ref (z + b)), some (.int (Int32.ofInt p1)), none, none] [] (sw_M z n sw_Ft T K) Q := by
  unfold w35 at h
  refine go_l qd35_0 rfl ?_
  refine go_l qd35_1 rfl ?_
  obtain ⟨r2, e1, h⟩ := sw_bind h
  refine ga_kv (a := b) (as := [.int (Int32.ofInt p1)]) (rest := []) qd35_2 qk35_74 (sw_rb hn hb) rfl rfl rfl (Nat.le_of_ble_eq_true rfl) (Nat.le_of_ble_eq_true rfl) rfl (A25 hn hb e1 (sw_bkv ?_))
  obtain ⟨_u, e3, h⟩ := sw_bind h
  by_cases hb4 : r2 = 0
  · replace h := sw_ifY hb4 h
    refine ga_zneY (t := 9) qd35_5 e3 hb4 rfl ?_
    rw [← sw_sj h] at kk
    exact ga_rv qd35_8 qr35 kk
  · replace h := sw_ifN hb4 h
    refine ga_zneN (t := 9) qd35_5 e3 hb4 rfl ?_
    refine go_l qd35_9 rfl ?_
    refine ga_gf (v := .ref (z + (b + 3))) qd35_10 qc35 qf3_22 (sw_rb hn hb) rfl rfl ?_
    refine go_l qd35_13 rfl ?_
    obtain ⟨v6, e5, h⟩ := sw_bind h
    refine ga_iald qd35_14 (sw_rk hn hb 3 (by decide)) e5 ?_
    refine go_l (L' := [some (.ref (z + b)), some (.int (Int32.ofInt p1)), some (.int (Int32.ofInt v6)), none]) (st' := []) qd35_15 rfl ?_
    refine go_l qd35_16 rfl ?_
    refine ga_gf (v := .ref (z + (b + 20))) qd35_17 qc35 qf3_54 (sw_rb hn hb) rfl rfl ?_
    refine go_l qd35_20 rfl ?_
    obtain ⟨r8, e7, h⟩ := sw_bind h
    refine ga_kv (a := (b + 20)) (as := [.int (Int32.ofInt v6)]) (rest := []) qd35_21 qk35_123 (sw_rk hn hb 20 (by decide)) rfl rfl rfl (Nat.le_of_ble_eq_true rfl) (Nat.le_of_ble_eq_true rfl) rfl (A53 hn hb e7 (sw_bkv ?_))
    refine go_l qd35_24 rfl ?_
    refine ga_gf (v := .ref (z + (b + 2))) qd35_25 qc35 qf3_19 (sw_rb hn hb) rfl rfl ?_
    refine go_l qd35_28 rfl ?_
    obtain ⟨v10, e9, h⟩ := sw_bind h
    refine ga_iald qd35_29 (sw_rk hn hb 2 (by decide)) e9 ?_
    refine ga_isub qd35_30 ?_
    refine go_l (L' := [some (.ref (z + b)), some (.int (Int32.ofInt p1)), some (.int (Int32.ofInt v6)), some (.int (Int32.ofInt (r8 - v10)))]) (st' := []) qd35_31 rfl ?_
    refine go_l qd35_32 rfl ?_
    refine ga_gf (v := .ref (z + (b + 20))) qd35_33 qc35 qf3_54 (sw_rb hn hb) rfl rfl ?_
    refine go_l qd35_36 rfl ?_
    refine go_l qd35_37 rfl ?_
    obtain ⟨_u, e11, h⟩ := sw_bind h
    by_cases hb12 : 0 < (r8 - v10)
    · replace h := sw_ifY hb12 h
      refine ga_zleY (t := 45) qd35_38 e11 hb12 rfl ?_
      refine go_l qd35_41 rfl ?_
      refine ga_jp (t := 46) qd35_42 rfl ?_
      exact sq_weak (L := [some (.ref (z + b)), some (.int (Int32.ofInt p1)), some (.int (Int32.ofInt v6)), some (.int (Int32.ofInt (r8 - v10)))]) ⟨rfl, rfl, rfl, rfl, trivial⟩ (B35_46 hn hb h kk)
    · replace h := sw_ifN hb12 h
      refine ga_zleN (t := 45) qd35_38 e11 hb12 rfl ?_
      refine go_s qd35_45 rfl ?_
      exact sq_weak (L := [some (.ref (z + b)), some (.int (Int32.ofInt p1)), some (.int (Int32.ofInt v6)), some (.int (Int32.ofInt (r8 - v10)))]) ⟨rfl, rfl, rfl, rfl, trivial⟩ (B35_46 hn hb h kk)
theorem qk39_74 : sw_ck 39 74 25 0 1 3 2 = true := by decide +kernel
theorem qr39 : sq_ret 39 = some .boolean := by decide +kernel
theorem qc39 : sq_c 39 = 3 := by decide +kernel
theorem qk39_78 : sw_ck 39 78 18 0 1 2 2 = true := by decide +kernel
-- 39: SewingPiles$Room.canBeTakenFrom(I)Z
def w39 (b : Nat) (T : sw_T) (p1 : Int) : Option (Int) :=
  (w25 b T p1).bind fun r2 =>
  (sw_r1 r2).bind fun _u =>
  if r2 = 0 then
    some (0)
  else
    (w18 b T p1).bind fun r6 =>
    (sw_r2 r6 2).bind fun _u =>
    if r6 < 2 then
      (sw_r2 r6 1).bind fun _u =>
      if r6 = 1 then
        (sw_ld T (b + 5) 7 p1).bind fun v12 =>
        (sw_r1 v12).bind fun _u =>
        if v12 = 0 then
          (sw_ld T (b + 3) 7 p1).bind fun v16 =>
          (sw_r2 v16 (-1)).bind fun _u =>
          if v16 = (-1) then
            some (0)
          else
            some (1)
        else
          some (1)
      else
        some (0)
    else
      some (1)
theorem A39 {G : sp_G} {z n : Nat} (hn : 228 ≤ n) {b : Nat} (hb : b ∈ sw_rm) {T : sw_T} {K : sw_K} {p1 : Int} {res : Int} {Q : sp_R → sp_M → Prop} (h : w39 b T p1 = some res) (kk : Q (.inl (some (.int (Int32.ofInt res)))) (sw_M z n sw_Ft T K)) : sq_go G 39 0 [some (.ref (z + b)), some (.int (Int32.ofInt p1)), none] [] (sw_M z n sw_Ft T K) Q := by
  unfold w39 at h
  refine go_l qd39_0 rfl ?_
  refine go_l qd39_1 rfl ?_
  obtain ⟨r2, e1, h⟩ := sw_bind h
  refine ga_kv (a := b) (as := [.int (Int32.ofInt p1)]) (rest := []) qd39_2 qk39_74 (sw_rb hn hb) rfl rfl rfl (Nat.le_of_ble_eq_true rfl) (Nat.le_of_ble_eq_true rfl) rfl (A25 hn hb e1 (sw_bkv ?_))
  obtain ⟨_u, e3, h⟩ := sw_bind h
  by_cases hb4 : r2 = 0
  · replace h := sw_ifY hb4 h
    refine ga_zneY (t := 10) qd39_5 e3 hb4 rfl ?_
    refine go_s qd39_8 rfl ?_
    rw [← sw_sj h] at kk
    exact ga_rb (u := ()) qd39_9 qr39 (by decide) kk
  · replace h := sw_ifN hb4 h
    refine ga_zneN (t := 10) qd39_5 e3 hb4 rfl ?_
    refine go_l qd39_10 rfl ?_
    refine ga_gf (v := .ref (z + (b + 10))) qd39_11 qc39 qf3_47 (sw_rb hn hb) rfl rfl ?_
    refine go_l qd39_14 rfl ?_
    obtain ⟨r6, e5, h⟩ := sw_bind h
    refine ga_kv (a := (b + 10)) (as := [.int (Int32.ofInt p1)]) (rest := []) qd39_15 qk39_78 (sw_rk hn hb 10 (by decide)) rfl rfl rfl (Nat.le_of_ble_eq_true rfl) (Nat.le_of_ble_eq_true rfl) rfl (A18 hn hb e5 (sw_bkv ?_))
    refine go_l (L' := [some (.ref (z + b)), some (.int (Int32.ofInt p1)), some (.int (Int32.ofInt r6))]) (st' := []) qd39_18 rfl ?_
    refine go_l qd39_19 rfl ?_
    refine go_s qd39_20 rfl ?_
    obtain ⟨_u, e7, h⟩ := sw_bind h
    by_cases hb8 : r6 < 2
    · replace h := sw_ifY hb8 h
      refine ga_cgeY (t := 48) qd39_21 e7 hb8 rfl ?_
      refine go_l qd39_24 rfl ?_
      refine go_s qd39_25 rfl ?_
      obtain ⟨_u, e9, h⟩ := sw_bind h
      by_cases hb10 : r6 = 1
      · replace h := sw_ifY hb10 h
        refine ga_cneY (t := 52) qd39_26 e9 hb10 rfl ?_
        refine go_l qd39_29 rfl ?_
        refine ga_gf (v := .ref (z + (b + 5))) qd39_30 qc39 qf3_28 (sw_rb hn hb) rfl rfl ?_
        refine go_l qd39_33 rfl ?_
        obtain ⟨v12, e11, h⟩ := sw_bind h
        refine ga_bald qd39_34 (sw_rk hn hb 5 (by decide)) e11 ?_
        obtain ⟨_u, e13, h⟩ := sw_bind h
        by_cases hb14 : v12 = 0
        · replace h := sw_ifY hb14 h
          refine ga_zneY (t := 48) qd39_35 e13 hb14 rfl ?_
          refine go_l qd39_38 rfl ?_
          refine ga_gf (v := .ref (z + (b + 3))) qd39_39 qc39 qf3_22 (sw_rb hn hb) rfl rfl ?_
          refine go_l qd39_42 rfl ?_
          obtain ⟨v16, e15, h⟩ := sw_bind h
          refine ga_iald qd39_43 (sw_rk hn hb 3 (by decide)) e15 ?_
          refine go_s qd39_44 rfl ?_
          obtain ⟨_u, e17, h⟩ := sw_bind h
          by_cases hb18 : v16 = (-1)
          · replace h := sw_ifY hb18 h
            refine ga_ceqY (t := 52) qd39_45 e17 hb18 rfl ?_
            refine go_s qd39_52 rfl ?_
            rw [← sw_sj h] at kk
            exact ga_rb (u := ()) qd39_53 qr39 (by decide) kk
          · replace h := sw_ifN hb18 h
            refine ga_ceqN (t := 52) qd39_45 e17 hb18 rfl ?_
            refine go_s qd39_48 rfl ?_
            refine ga_jp (t := 53) qd39_49 rfl ?_
            rw [← sw_sj h] at kk
            exact ga_rb (u := ()) qd39_53 qr39 (by decide) kk
        · replace h := sw_ifN hb14 h
          refine ga_zneN (t := 48) qd39_35 e13 hb14 rfl ?_
          refine go_s qd39_48 rfl ?_
          refine ga_jp (t := 53) qd39_49 rfl ?_
          rw [← sw_sj h] at kk
          exact ga_rb (u := ()) qd39_53 qr39 (by decide) kk
      · replace h := sw_ifN hb10 h
        refine ga_cneN (t := 52) qd39_26 e9 hb10 rfl ?_
        refine go_s qd39_52 rfl ?_
        rw [← sw_sj h] at kk
        exact ga_rb (u := ()) qd39_53 qr39 (by decide) kk
    · replace h := sw_ifN hb8 h
      refine ga_cgeN (t := 48) qd39_21 e7 hb8 rfl ?_
      refine go_s qd39_48 rfl ?_
      refine ga_jp (t := 53) qd39_49 rfl ?_
      rw [← sw_sj h] at kk
      exact ga_rb (u := ()) qd39_53 qr39 (by decide) kk
theorem qc40 : sq_c 40 = 3 := by decide +kernel
theorem qk40_78 : sw_ck 40 78 18 0 1 2 2 = true := by decide +kernel
theorem qr40 : sq_ret 40 = some .int := by decide +kernel
theorem qk40_142 : sw_ck 40 142 19 0 2 2 3 = true := by decide +kernel
theorem qk40_123 : sw_ck 40 123 53 0 1 4 2 = true := by decide +kernel
-- 40: SewingPiles$Room.merit(II)I
def w40 (b : Nat) (T : sw_T) (p1 : Int) (p2 : Int) : Option (Int) :=
  (sw_ld T (b + 1) 3 1).bind fun v2 =>
  (sw_r1 v2).bind fun _u =>
  if v2 = 0 then
    (w18 b T p2).bind fun r6 =>
    some (r6)
  else
  if v2 = 1 then
    (sw_r2 p2 p1).bind fun _u =>
    if p1 < p2 then
      some (((T b 1) - (p2 - p1)))
    else
      some ((p1 - p2))
  else
    (w19 b T p2 0).bind fun r11 =>
    (w53 b T r11).bind fun r13 =>
    some (r13)
theorem A40 {G : sp_G} {z n : Nat} (hn : 228 ≤ n) {b : Nat} (hb : b ∈ sw_rm) {T : sw_T} {K : sw_K} {p1 : Int} {p2 : Int} {res : Int} {Q : sp_R → sp_M → Prop} (h : w40 b T p1 p2 = some res) (kk : Q (.inl (some (.int (Int32.ofInt res)))) (sw_M z n sw_Ft T K)) : sq_go G 40 0 [some (.ref (z + b)), some (.int (Int32.ofInt p1)), some (.int (Int32.ofInt p2))] [] (sw_M z n sw_Ft T K) Q := by
  unfold w40 at h
  refine go_l qd40_0 rfl ?_
  refine ga_gf (v := .ref (z + (b + 1))) qd40_1 qc40 qf3_15 (sw_rb hn hb) rfl rfl ?_
  refine go_s qd40_4 rfl ?_
  obtain ⟨v2, e1, h⟩ := sw_bind h
  refine ga_iald qd40_5 (sw_rk hn hb 1 (by decide)) e1 ?_
  obtain ⟨_u, e3, h⟩ := sw_bind h
  by_cases hb4 : v2 = 0
  · replace h := sw_ifY hb4 h
    refine ga_sw (t := 32) qd40_6 rfl hb4 rfl ?_
    refine go_l qd40_32 rfl ?_
    refine ga_gf (v := .ref (z + (b + 10))) qd40_33 qc40 qf3_47 (sw_rb hn hb) rfl rfl ?_
    refine go_l qd40_36 rfl ?_
    obtain ⟨r6, e5, h⟩ := sw_bind h
    refine ga_kv (a := (b + 10)) (as := [.int (Int32.ofInt p2)]) (rest := []) qd40_37 qk40_78 (sw_rk hn hb 10 (by decide)) rfl rfl rfl (Nat.le_of_ble_eq_true rfl) (Nat.le_of_ble_eq_true rfl) rfl (A18 hn hb e5 (sw_bkv ?_))
    rw [← sw_sj h] at kk
    exact ga_ri qd40_40 qr40 kk
  · replace h := sw_ifN hb4 h
    by_cases hb7 : v2 = 1
    · replace h := sw_ifY hb7 h
      refine ga_sw (t := 41) qd40_6 rfl hb7 rfl ?_
      refine go_l qd40_41 rfl ?_
      refine go_l qd40_42 rfl ?_
      obtain ⟨_u, e8, h⟩ := sw_bind h
      by_cases hb9 : p1 < p2
      · replace h := sw_ifY hb9 h
        refine ga_cleY (t := 57) qd40_43 e8 hb9 rfl ?_
        refine go_l qd40_46 rfl ?_
        refine ga_gf (v := .int (Int32.ofInt (T b 1))) qd40_47 qc40 qf3_9 (sw_rb hn hb) rfl rfl ?_
        refine go_l qd40_50 rfl ?_
        refine go_l qd40_51 rfl ?_
        refine ga_isub qd40_52 ?_
        refine ga_isub qd40_53 ?_
        refine ga_jp (t := 60) qd40_54 rfl ?_
        rw [← sw_sj h] at kk
        exact ga_ri qd40_60 qr40 kk
      · replace h := sw_ifN hb9 h
        refine ga_cleN (t := 57) qd40_43 e8 hb9 rfl ?_
        refine go_l qd40_57 rfl ?_
        refine go_l qd40_58 rfl ?_
        refine ga_isub qd40_59 ?_
        rw [← sw_sj h] at kk
        exact ga_ri qd40_60 qr40 kk
    · replace h := sw_ifN hb7 h
      refine ga_lsd (t := 61) qd40_6 e3 (by decide) (by intro p hp; simp only [List.mem_cons, List.not_mem_nil, or_false] at hp; rcases hp with rfl | rfl <;> (dsimp only; omega)) rfl ?_
      refine go_l qd40_61 rfl ?_
      refine ga_gf (v := .ref (z + (b + 20))) qd40_62 qc40 qf3_54 (sw_rb hn hb) rfl rfl ?_
      refine go_l qd40_65 rfl ?_
      refine ga_gf (v := .ref (z + (b + 10))) qd40_66 qc40 qf3_47 (sw_rb hn hb) rfl rfl ?_
      refine go_l qd40_69 rfl ?_
      refine go_s qd40_70 rfl ?_
      obtain ⟨r11, e10, h⟩ := sw_bind h
      refine ga_kv (a := (b + 10)) (as := [.int (Int32.ofInt p2), .int (Int32.ofInt 0)]) (rest := [.ref (z + (b + 20))]) qd40_71 qk40_142 (sw_rk hn hb 10 (by decide)) rfl rfl rfl (Nat.le_of_ble_eq_true rfl) (Nat.le_of_ble_eq_true rfl) rfl (A19 hn hb e10 (sw_bkv ?_))
      obtain ⟨r13, e12, h⟩ := sw_bind h
      refine ga_kv (a := (b + 20)) (as := [.int (Int32.ofInt r11)]) (rest := []) qd40_74 qk40_123 (sw_rk hn hb 20 (by decide)) rfl rfl rfl (Nat.le_of_ble_eq_true rfl) (Nat.le_of_ble_eq_true rfl) rfl (A53 hn hb e12 (sw_bkv ?_))
      rw [← sw_sj h] at kk
      exact ga_ri qd40_77 qr40 kk
theorem qc38 : sq_c 38 = 3 := by decide +kernel
theorem qk38_136 : sw_ck 38 136 39 0 1 3 3 = true := by decide +kernel
theorem qk38_139 : sw_ck 38 139 40 0 2 3 3 = true := by decide +kernel
theorem qr38 : sq_ret 38 = some .int := by decide +kernel
-- 38: SewingPiles$Room.chosenPile(I)I
def w38_7 (b : Nat) (T : sw_T) (l1 : Int) : Nat → Int → Int → Int → Option (Int)
  | 0, _, _, _ => none
  | m + 1, l2, l3, l4 =>
    (sw_r2 l4 (T b 1)).bind fun _u =>
    if l4 < (T b 1) then
      (sw_r2 l4 7).bind fun _u =>
      if l4 < 7 then
        (sw_r2 l4 l1).bind fun _u =>
        if l4 = l1 then
          w38_7 b T l1 m l2 l3 (l4 + 1)
        else
          (w39 b T l4).bind fun r8 =>
          (sw_r1 r8).bind fun _u =>
          if r8 = 0 then
            w38_7 b T l1 m l2 l3 (l4 + 1)
          else
            (w40 b T l1 l4).bind fun r12 =>
            (sw_r2 l2 (-1)).bind fun _u =>
            if l2 = (-1) then
              w38_7 b T l1 m l4 r12 (l4 + 1)
            else
              (sw_r2 r12 l3).bind fun _u =>
              if l3 < r12 then
                w38_7 b T l1 m l4 r12 (l4 + 1)
              else
                w38_7 b T l1 m l2 l3 (l4 + 1)
      else
        some (l2)
    else
      some (l2)
theorem B38_7 {G : sp_G} {z n : Nat} (hn : 228 ≤ n) {b : Nat} (hb : b ∈ sw_rm) {T : sw_T} {l1 : Int} {K : sw_K} {res : Int} {Q : sp_R → sp_M → Prop} (kk : sq_go G 38 70 [none, none, some (.int (Int32.ofInt res)), none, none, none] [] (sw_M z n sw_Ft T K) Q) : ∀ (m : Nat) (l2 : Int) (l3 : Int) (l4 : Int), w38_7 b T l1 m l2 l3 l4 = some res → sq_go G 38 7 [some (.ref (z + b)), some (.int (Int32.ofInt l1)), some (.int (Int32.ofInt l2)), some (.int (Int32.ofInt l3)), some (.int (Int32.ofInt l4)), none] [] (sw_M z n sw_Ft T K) Q := by
  intro m
  induction m with
  | zero => intro l2 l3 l4 h; cases h
  | succ m ih =>
    intro l2 l3 l4 h
    rw [w38_7] at h
    refine go_l qd38_7 rfl ?_
    refine go_l qd38_9 rfl ?_
    refine ga_gf (v := .int (Int32.ofInt (T b 1))) qd38_10 qc38 qf3_9 (sw_rb hn hb) rfl rfl ?_
    obtain ⟨_u, e1, h⟩ := sw_bind h
    by_cases hb2 : l4 < (T b 1)
    · replace h := sw_ifY hb2 h
      refine ga_cgeY (t := 70) qd38_13 e1 hb2 rfl ?_
      refine go_l qd38_16 rfl ?_
      refine ga_k8 qd38_18 rfl ?_
      obtain ⟨_u, e3, h⟩ := sw_bind h
      by_cases hb4 : l4 < 7
      · replace h := sw_ifY hb4 h
        refine ga_cgeY (t := 70) qd38_20 e3 hb4 rfl ?_
        refine go_l qd38_23 rfl ?_
        refine go_l qd38_25 rfl ?_
        obtain ⟨_u, e5, h⟩ := sw_bind h
        by_cases hb6 : l4 = l1
        · replace h := sw_ifY hb6 h
          refine ga_ceqY (t := 64) qd38_26 e5 hb6 rfl ?_
          refine ga_ii (L' := [some (.ref (z + b)), some (.int (Int32.ofInt l1)), some (.int (Int32.ofInt l2)), some (.int (Int32.ofInt l3)), some (.int (Int32.ofInt (l4 + 1))), none]) qd38_64 rfl rfl ?_
          refine ga_jp (t := 7) qd38_67 rfl ?_
          exact sq_weak (L := [some (.ref (z + b)), some (.int (Int32.ofInt l1)), some (.int (Int32.ofInt l2)), some (.int (Int32.ofInt l3)), some (.int (Int32.ofInt (l4 + 1))), none]) ⟨rfl, rfl, rfl, rfl, rfl, trivial⟩ (ih _ _ _ h)
        · replace h := sw_ifN hb6 h
          refine ga_ceqN (t := 64) qd38_26 e5 hb6 rfl ?_
          refine go_l qd38_29 rfl ?_
          refine go_l qd38_30 rfl ?_
          obtain ⟨r8, e7, h⟩ := sw_bind h
          refine ga_kv (a := b) (as := [.int (Int32.ofInt l4)]) (rest := []) qd38_32 qk38_136 (sw_rb hn hb) rfl rfl rfl (Nat.le_of_ble_eq_true rfl) (Nat.le_of_ble_eq_true rfl) rfl (A39 hn hb e7 (sw_bkv ?_))
          obtain ⟨_u, e9, h⟩ := sw_bind h
          by_cases hb10 : r8 = 0
          · replace h := sw_ifY hb10 h
            refine ga_zeqY (t := 64) qd38_35 e9 hb10 rfl ?_
            refine ga_ii (L' := [some (.ref (z + b)), some (.int (Int32.ofInt l1)), some (.int (Int32.ofInt l2)), some (.int (Int32.ofInt l3)), some (.int (Int32.ofInt (l4 + 1))), none]) qd38_64 rfl rfl ?_
            refine ga_jp (t := 7) qd38_67 rfl ?_
            exact sq_weak (L := [some (.ref (z + b)), some (.int (Int32.ofInt l1)), some (.int (Int32.ofInt l2)), some (.int (Int32.ofInt l3)), some (.int (Int32.ofInt (l4 + 1))), none]) ⟨rfl, rfl, rfl, rfl, rfl, trivial⟩ (ih _ _ _ h)
          · replace h := sw_ifN hb10 h
            refine ga_zeqN (t := 64) qd38_35 e9 hb10 rfl ?_
            refine go_l qd38_38 rfl ?_
            refine go_l qd38_39 rfl ?_
            refine go_l qd38_40 rfl ?_
            obtain ⟨r12, e11, h⟩ := sw_bind h
            refine ga_kv (a := b) (as := [.int (Int32.ofInt l1), .int (Int32.ofInt l4)]) (rest := []) qd38_42 qk38_139 (sw_rb hn hb) rfl rfl rfl (Nat.le_of_ble_eq_true rfl) (Nat.le_of_ble_eq_true rfl) rfl (A40 hn hb e11 (sw_bkv ?_))
            refine go_l (L' := [some (.ref (z + b)), some (.int (Int32.ofInt l1)), some (.int (Int32.ofInt l2)), some (.int (Int32.ofInt l3)), some (.int (Int32.ofInt l4)), some (.int (Int32.ofInt r12))]) (st' := []) qd38_45 rfl ?_
            refine go_l qd38_47 rfl ?_
            refine go_s qd38_48 rfl ?_
            obtain ⟨_u, e13, h⟩ := sw_bind h
            by_cases hb14 : l2 = (-1)
            · replace h := sw_ifY hb14 h
              refine ga_ceqY (t := 58) qd38_49 e13 hb14 rfl ?_
              refine go_l qd38_58 rfl ?_
              refine go_l (L' := [some (.ref (z + b)), some (.int (Int32.ofInt l1)), some (.int (Int32.ofInt l4)), some (.int (Int32.ofInt l3)), some (.int (Int32.ofInt l4)), some (.int (Int32.ofInt r12))]) (st' := []) qd38_60 rfl ?_
              refine go_l qd38_61 rfl ?_
              refine go_l (L' := [some (.ref (z + b)), some (.int (Int32.ofInt l1)), some (.int (Int32.ofInt l4)), some (.int (Int32.ofInt r12)), some (.int (Int32.ofInt l4)), some (.int (Int32.ofInt r12))]) (st' := []) qd38_63 rfl ?_
              refine ga_ii (L' := [some (.ref (z + b)), some (.int (Int32.ofInt l1)), some (.int (Int32.ofInt l4)), some (.int (Int32.ofInt r12)), some (.int (Int32.ofInt (l4 + 1))), some (.int (Int32.ofInt r12))]) qd38_64 rfl rfl ?_
              refine ga_jp (t := 7) qd38_67 rfl ?_
              exact sq_weak (L := [some (.ref (z + b)), some (.int (Int32.ofInt l1)), some (.int (Int32.ofInt l4)), some (.int (Int32.ofInt r12)), some (.int (Int32.ofInt (l4 + 1))), none]) ⟨rfl, rfl, rfl, rfl, rfl, trivial⟩ (ih _ _ _ h)
            · replace h := sw_ifN hb14 h
              refine ga_ceqN (t := 58) qd38_49 e13 hb14 rfl ?_
              refine go_l qd38_52 rfl ?_
              refine go_l qd38_54 rfl ?_
              obtain ⟨_u, e15, h⟩ := sw_bind h
              by_cases hb16 : l3 < r12
              · replace h := sw_ifY hb16 h
                refine ga_cleY (t := 64) qd38_55 e15 hb16 rfl ?_
                refine go_l qd38_58 rfl ?_
                refine go_l (L' := [some (.ref (z + b)), some (.int (Int32.ofInt l1)), some (.int (Int32.ofInt l4)), some (.int (Int32.ofInt l3)), some (.int (Int32.ofInt l4)), some (.int (Int32.ofInt r12))]) (st' := []) qd38_60 rfl ?_
                refine go_l qd38_61 rfl ?_
                refine go_l (L' := [some (.ref (z + b)), some (.int (Int32.ofInt l1)), some (.int (Int32.ofInt l4)), some (.int (Int32.ofInt r12)), some (.int (Int32.ofInt l4)), some (.int (Int32.ofInt r12))]) (st' := []) qd38_63 rfl ?_
                refine ga_ii (L' := [some (.ref (z + b)), some (.int (Int32.ofInt l1)), some (.int (Int32.ofInt l4)), some (.int (Int32.ofInt r12)), some (.int (Int32.ofInt (l4 + 1))), some (.int (Int32.ofInt r12))]) qd38_64 rfl rfl ?_
                refine ga_jp (t := 7) qd38_67 rfl ?_
                exact sq_weak (L := [some (.ref (z + b)), some (.int (Int32.ofInt l1)), some (.int (Int32.ofInt l4)), some (.int (Int32.ofInt r12)), some (.int (Int32.ofInt (l4 + 1))), none]) ⟨rfl, rfl, rfl, rfl, rfl, trivial⟩ (ih _ _ _ h)
              · replace h := sw_ifN hb16 h
                refine ga_cleN (t := 64) qd38_55 e15 hb16 rfl ?_
                refine ga_ii (L' := [some (.ref (z + b)), some (.int (Int32.ofInt l1)), some (.int (Int32.ofInt l2)), some (.int (Int32.ofInt l3)), some (.int (Int32.ofInt (l4 + 1))), some (.int (Int32.ofInt r12))]) qd38_64 rfl rfl ?_
                refine ga_jp (t := 7) qd38_67 rfl ?_
                exact sq_weak (L := [some (.ref (z + b)), some (.int (Int32.ofInt l1)), some (.int (Int32.ofInt l2)), some (.int (Int32.ofInt l3)), some (.int (Int32.ofInt (l4 + 1))), none]) ⟨rfl, rfl, rfl, rfl, rfl, trivial⟩ (ih _ _ _ h)
      · replace h := sw_ifN hb4 h
        refine ga_cgeN (t := 70) qd38_20 e3 hb4 rfl ?_
        rw [← sw_sj h] at kk
        exact sq_weak (L := [none, none, some (.int (Int32.ofInt l2)), none, none, none]) ⟨rfl, trivial⟩ kk
    · replace h := sw_ifN hb2 h
      refine ga_cgeN (t := 70) qd38_13 e1 hb2 rfl ?_
      rw [← sw_sj h] at kk
      exact sq_weak (L := [none, none, some (.int (Int32.ofInt l2)), none, none, none]) ⟨rfl, trivial⟩ kk
def w38 (b : Nat) (T : sw_T) (p1 : Int) : Option (Int) :=
  (w38_7 b T p1 sw_N (-1) 0 0).bind fun x17 =>
  some (x17)
theorem A38 {G : sp_G} {z n : Nat} (hn : 228 ≤ n) {b : Nat} (hb : b ∈ sw_rm) {T : sw_T} {K : sw_K} {p1 : Int} {res : Int} {Q : sp_R → sp_M → Prop} (h : w38 b T p1 = some res) (kk : Q (.inl (some (.int (Int32.ofInt res)))) (sw_M z n sw_Ft T K)) : sq_go G 38 0 [some (.ref (z + b)), some (.int (Int32.ofInt p1)), none, none, none, none] [] (sw_M z n sw_Ft T K) Q := by
  unfold w38 at h
  refine go_s qd38_0 rfl ?_
  refine go_l (L' := [some (.ref (z + b)), some (.int (Int32.ofInt p1)), some (.int (Int32.ofInt (-1))), none, none, none]) (st' := []) qd38_1 rfl ?_
  refine go_s qd38_2 rfl ?_
  refine go_l (L' := [some (.ref (z + b)), some (.int (Int32.ofInt p1)), some (.int (Int32.ofInt (-1))), some (.int (Int32.ofInt 0)), none, none]) (st' := []) qd38_3 rfl ?_
  refine go_s qd38_4 rfl ?_
  refine go_l (L' := [some (.ref (z + b)), some (.int (Int32.ofInt p1)), some (.int (Int32.ofInt (-1))), some (.int (Int32.ofInt 0)), some (.int (Int32.ofInt 0)), none]) (st' := []) qd38_5 rfl ?_
  obtain ⟨x17, e18, h⟩ := sw_bind h
  refine sq_weak (L := [some (.ref (z + b)), some (.int (Int32.ofInt p1)), some (.int (Int32.ofInt (-1))), some (.int (Int32.ofInt 0)), some (.int (Int32.ofInt 0)), none]) ⟨rfl, rfl, rfl, rfl, rfl, trivial⟩ (B38_7 hn hb (res := x17) ?_ _ _ _ _ e18)
  refine go_l qd38_70 rfl ?_
  rw [← sw_sj h] at kk
  exact ga_ri qd38_71 qr38 kk
theorem qk36_74 : sw_ck 36 74 25 0 1 3 2 = true := by decide +kernel
theorem qr36 : sq_ret 36 = none := by decide +kernel
theorem qc36 : sq_c 36 = 3 := by decide +kernel
-- 36: SewingPiles$Room.miss(I)V
def w36 (b : Nat) (T : sw_T) (p1 : Int) : Option (sw_T) :=
  (w25 b T p1).bind fun r2 =>
  (sw_r1 r2).bind fun _u =>
  if r2 = 0 then
    some (T)
  else
    (sw_ld T (b + 9) 7 p1).bind fun v6 =>
    (sw_st T (b + 9) 7 p1 (v6 + 1)).bind fun T8 =>
    (sw_ld T8 (b + 4) 7 p1).bind fun v10 =>
    (sw_st T8 (b + 4) 7 p1 (v10 + 1)).bind fun T12 =>
    (sw_ld T12 (b + 4) 7 p1).bind fun v14 =>
    (sw_ld T12 (b + 1) 3 2).bind fun v16 =>
    (sw_r2 v14 v16).bind fun _u =>
    if v14 < v16 then
      some (T12)
    else
      (sw_sb T12 (b + 5) 7 p1 1).bind fun T20 =>
      (sw_st T20 (b + 4) 7 p1 0).bind fun T22 =>
      some (T22)
theorem A36 {G : sp_G} {z n : Nat} (hn : 228 ≤ n) {b : Nat} (hb : b ∈ sw_rm) {T : sw_T} {K : sw_K} {p1 : Int} {res : sw_T} {Q : sp_R → sp_M → Prop} (h : w36 b T p1 = some res) (kk : Q (.inl none) (sw_M z n sw_Ft res K)) : sq_go G 36 0 [some (.ref (z + b)), some (.int (Int32.ofInt p1))] [] (sw_M z n sw_Ft T K) Q := by
  unfold w36 at h
  refine go_l qd36_0 rfl ?_
  refine go_l qd36_1 rfl ?_
  obtain ⟨r2, e1, h⟩ := sw_bind h
  refine ga_kv (a := b) (as := [.int (Int32.ofInt p1)]) (rest := []) qd36_2 qk36_74 (sw_rb hn hb) rfl rfl rfl (Nat.le_of_ble_eq_true rfl) (Nat.le_of_ble_eq_true rfl) rfl (A25 hn hb e1 (sw_bkv ?_))
  obtain ⟨_u, e3, h⟩ := sw_bind h
  by_cases hb4 : r2 = 0
  · replace h := sw_ifY hb4 h
    refine ga_zneY (t := 9) qd36_5 e3 hb4 rfl ?_
    rw [← sw_sj h] at kk
    exact ga_rv qd36_8 qr36 kk
  · replace h := sw_ifN hb4 h
    refine ga_zneN (t := 9) qd36_5 e3 hb4 rfl ?_
    refine go_l qd36_9 rfl ?_
    refine ga_gf (v := .ref (z + (b + 9))) qd36_10 qc36 qf3_41 (sw_rb hn hb) rfl rfl ?_
    refine go_l qd36_13 rfl ?_
    refine go_s qd36_14 rfl ?_
    obtain ⟨v6, e5, h⟩ := sw_bind h
    refine ga_iald qd36_15 (sw_rk hn hb 9 (by decide)) e5 ?_
    refine go_s qd36_16 rfl ?_
    refine ga_iadd qd36_17 ?_
    obtain ⟨T8, e7, h⟩ := sw_bind h
    refine ga_iast qd36_18 (sw_rk hn hb 9 (by decide)) e7 ?_
    refine go_l qd36_19 rfl ?_
    refine ga_gf (v := .ref (z + (b + 4))) qd36_20 qc36 qf3_25 (sw_rb hn hb) rfl rfl ?_
    refine go_l qd36_23 rfl ?_
    refine go_s qd36_24 rfl ?_
    obtain ⟨v10, e9, h⟩ := sw_bind h
    refine ga_iald qd36_25 (sw_rk hn hb 4 (by decide)) e9 ?_
    refine go_s qd36_26 rfl ?_
    refine ga_iadd qd36_27 ?_
    obtain ⟨T12, e11, h⟩ := sw_bind h
    refine ga_iast qd36_28 (sw_rk hn hb 4 (by decide)) e11 ?_
    refine go_l qd36_29 rfl ?_
    refine ga_gf (v := .ref (z + (b + 4))) qd36_30 qc36 qf3_25 (sw_rb hn hb) rfl rfl ?_
    refine go_l qd36_33 rfl ?_
    obtain ⟨v14, e13, h⟩ := sw_bind h
    refine ga_iald qd36_34 (sw_rk hn hb 4 (by decide)) e13 ?_
    refine go_l qd36_35 rfl ?_
    refine ga_gf (v := .ref (z + (b + 1))) qd36_36 qc36 qf3_15 (sw_rb hn hb) rfl rfl ?_
    refine go_s qd36_39 rfl ?_
    obtain ⟨v16, e15, h⟩ := sw_bind h
    refine ga_iald qd36_40 (sw_rk hn hb 1 (by decide)) e15 ?_
    obtain ⟨_u, e17, h⟩ := sw_bind h
    by_cases hb18 : v14 < v16
    · replace h := sw_ifY hb18 h
      refine ga_cltY (t := 58) qd36_41 e17 hb18 rfl ?_
      rw [← sw_sj h] at kk
      exact ga_rv qd36_58 qr36 kk
    · replace h := sw_ifN hb18 h
      refine ga_cltN (t := 58) qd36_41 e17 hb18 rfl ?_
      refine go_l qd36_44 rfl ?_
      refine ga_gf (v := .ref (z + (b + 5))) qd36_45 qc36 qf3_28 (sw_rb hn hb) rfl rfl ?_
      refine go_l qd36_48 rfl ?_
      refine go_s qd36_49 rfl ?_
      obtain ⟨T20, e19, h⟩ := sw_bind h
      refine ga_bast qd36_50 (sw_rk hn hb 5 (by decide)) e19 ?_
      refine go_l qd36_51 rfl ?_
      refine ga_gf (v := .ref (z + (b + 4))) qd36_52 qc36 qf3_25 (sw_rb hn hb) rfl rfl ?_
      refine go_l qd36_55 rfl ?_
      refine go_s qd36_56 rfl ?_
      obtain ⟨T22, e21, h⟩ := sw_bind h
      refine ga_iast qd36_57 (sw_rk hn hb 4 (by decide)) e21 ?_
      rw [← sw_sj h] at kk
      exact ga_rv qd36_58 qr36 kk
theorem qk34_74 : sw_ck 34 74 25 0 1 3 2 = true := by decide +kernel
theorem qr34 : sq_ret 34 = some .int := by decide +kernel
theorem qc34 : sq_c 34 = 3 := by decide +kernel
theorem qk34_78 : sw_ck 34 78 18 0 1 2 2 = true := by decide +kernel
theorem qk34_111 : sw_ck 34 111 21 0 1 2 3 = true := by decide +kernel
theorem qk34_120 : sw_ck 34 120 36 0 1 3 2 = true := by decide +kernel
theorem qk34_117 : sw_ck 34 117 22 0 1 2 4 = true := by decide +kernel
theorem qk34_114 : sw_ck 34 114 38 0 1 3 6 = true := by decide +kernel
theorem qk34_107 : sw_ck 34 107 35 0 1 3 4 = true := by decide +kernel
-- 34: SewingPiles$Room.act(IZ)I
def w34_81 (b : Nat) (T : sw_T) (l1 : Int) (s0 : Int) : Option (Int × sw_T) :=
  (sw_r2 s0 (-1)).bind fun _u =>
  if s0 = (-1) then
    (w36 b T l1).bind fun r24 =>
    some (((-1), r24))
  else
    (sw_ld T (b + 7) 7 l1).bind fun v26 =>
    (sw_st T (b + 7) 7 l1 (v26 + 1)).bind fun T28 =>
    (w22 b T28 s0).bind fun r30 =>
    some ((r30.1, r30.2))
theorem B34_81 {G : sp_G} {z n : Nat} (hn : 228 ≤ n) {b : Nat} (hb : b ∈ sw_rm) {T : sw_T} {K : sw_K} {l1 : Int} {s0 : Int} {res : Int × sw_T} {Q : sp_R → sp_M → Prop} (h : w34_81 b T l1 s0 = some res) (kk : Q (.inl (some (.int (Int32.ofInt res.1)))) (sw_M z n sw_Ft res.2 K)) : sq_go G 34 81 [some (.ref (z + b)), some (.int (Int32.ofInt l1)), none, none] [.int (Int32.ofInt s0)] (sw_M z n sw_Ft T K) Q := by
  unfold w34_81 at h
  refine go_l (L' := [some (.ref (z + b)), some (.int (Int32.ofInt l1)), none, some (.int (Int32.ofInt s0))]) (st' := []) qd34_81 rfl ?_
  refine go_l qd34_82 rfl ?_
  refine go_s qd34_83 rfl ?_
  obtain ⟨_u, e21, h⟩ := sw_bind h
  by_cases hb22 : s0 = (-1)
  · replace h := sw_ifY hb22 h
    refine ga_ceqY (t := 106) qd34_84 e21 hb22 rfl ?_
    refine go_l qd34_106 rfl ?_
    refine go_l qd34_107 rfl ?_
    obtain ⟨r24, e23, h⟩ := sw_bind h
    refine ga_kv (a := b) (as := [.int (Int32.ofInt l1)]) (rest := []) qd34_108 qk34_120 (sw_rb hn hb) rfl rfl rfl (Nat.le_of_ble_eq_true rfl) (Nat.le_of_ble_eq_true rfl) rfl (A36 hn hb e23 (sw_bk0 ?_))
    refine go_s qd34_111 rfl ?_
    rw [← sw_sj h] at kk
    exact ga_ri qd34_112 qr34 kk
  · replace h := sw_ifN hb22 h
    refine ga_ceqN (t := 106) qd34_84 e21 hb22 rfl ?_
    refine go_l qd34_87 rfl ?_
    refine ga_gf (v := .ref (z + (b + 7))) qd34_88 qc34 qf3_35 (sw_rb hn hb) rfl rfl ?_
    refine go_l qd34_91 rfl ?_
    refine go_s qd34_92 rfl ?_
    obtain ⟨v26, e25, h⟩ := sw_bind h
    refine ga_iald qd34_93 (sw_rk hn hb 7 (by decide)) e25 ?_
    refine go_s qd34_94 rfl ?_
    refine ga_iadd qd34_95 ?_
    obtain ⟨T28, e27, h⟩ := sw_bind h
    refine ga_iast qd34_96 (sw_rk hn hb 7 (by decide)) e27 ?_
    refine go_l qd34_97 rfl ?_
    refine ga_gf (v := .ref (z + (b + 10))) qd34_98 qc34 qf3_47 (sw_rb hn hb) rfl rfl ?_
    refine go_l qd34_101 rfl ?_
    obtain ⟨r30, e29, h⟩ := sw_bind h
    refine ga_kv (a := (b + 10)) (as := [.int (Int32.ofInt s0)]) (rest := []) qd34_102 qk34_117 (sw_rk hn hb 10 (by decide)) rfl rfl rfl (Nat.le_of_ble_eq_true rfl) (Nat.le_of_ble_eq_true rfl) rfl (A22 hn hb e29 (sw_bkv ?_))
    rw [← sw_sj h] at kk
    exact ga_ri qd34_105 qr34 kk
def w34 (b : Nat) (T : sw_T) (p1 : Int) (p2 : Int) : Option (Int × sw_T) :=
  (w25 b T p1).bind fun r2 =>
  (sw_r1 r2).bind fun _u =>
  if r2 = 0 then
    some (((-1), T))
  else
    (sw_ld T (b + 5) 7 p1).bind fun v6 =>
    (sw_r1 v6).bind fun _u =>
    if v6 = 0 then
      (sw_ld T (b + 3) 7 p1).bind fun v10 =>
      (sw_r2 v10 (-1)).bind fun _u =>
      if v10 = (-1) then
        (w18 b T p1).bind fun r14 =>
        (sw_r1 r14).bind fun _u =>
        if 0 < r14 then
          (w21 b T p1).bind fun r18 =>
          some ((r18.1, r18.2))
        else
          (sw_r1 p2).bind fun _u =>
          if p2 = 0 then
            w34_81 b T p1 (-1)
          else
            (w38 b T p1).bind fun r32 =>
            w34_81 b T p1 r32
      else
        (w35 b T p1).bind fun r34 =>
        some (((-1), r34))
    else
      (sw_ld T (b + 8) 7 p1).bind fun v36 =>
      (sw_st T (b + 8) 7 p1 (v36 + 1)).bind fun T38 =>
      some (((-1), T38))
theorem A34 {G : sp_G} {z n : Nat} (hn : 228 ≤ n) {b : Nat} (hb : b ∈ sw_rm) {T : sw_T} {K : sw_K} {p1 : Int} {p2 : Int} {res : Int × sw_T} {Q : sp_R → sp_M → Prop} (h : w34 b T p1 p2 = some res) (kk : Q (.inl (some (.int (Int32.ofInt res.1)))) (sw_M z n sw_Ft res.2 K)) : sq_go G 34 0 [some (.ref (z + b)), some (.int (Int32.ofInt p1)), some (.int (Int32.ofInt p2)), none] [] (sw_M z n sw_Ft T K) Q := by
  unfold w34 at h
  refine go_l qd34_0 rfl ?_
  refine go_l qd34_1 rfl ?_
  obtain ⟨r2, e1, h⟩ := sw_bind h
  refine ga_kv (a := b) (as := [.int (Int32.ofInt p1)]) (rest := []) qd34_2 qk34_74 (sw_rb hn hb) rfl rfl rfl (Nat.le_of_ble_eq_true rfl) (Nat.le_of_ble_eq_true rfl) rfl (A25 hn hb e1 (sw_bkv ?_))
  obtain ⟨_u, e3, h⟩ := sw_bind h
  by_cases hb4 : r2 = 0
  · replace h := sw_ifY hb4 h
    refine ga_zneY (t := 10) qd34_5 e3 hb4 rfl ?_
    refine go_s qd34_8 rfl ?_
    rw [← sw_sj h] at kk
    exact ga_ri qd34_9 qr34 kk
  · replace h := sw_ifN hb4 h
    refine ga_zneN (t := 10) qd34_5 e3 hb4 rfl ?_
    refine go_l qd34_10 rfl ?_
    refine ga_gf (v := .ref (z + (b + 5))) qd34_11 qc34 qf3_28 (sw_rb hn hb) rfl rfl ?_
    refine go_l qd34_14 rfl ?_
    obtain ⟨v6, e5, h⟩ := sw_bind h
    refine ga_bald qd34_15 (sw_rk hn hb 5 (by decide)) e5 ?_
    obtain ⟨_u, e7, h⟩ := sw_bind h
    by_cases hb8 : v6 = 0
    · replace h := sw_ifY hb8 h
      refine ga_zeqY (t := 31) qd34_16 e7 hb8 rfl ?_
      refine go_l qd34_31 rfl ?_
      refine ga_gf (v := .ref (z + (b + 3))) qd34_32 qc34 qf3_22 (sw_rb hn hb) rfl rfl ?_
      refine go_l qd34_35 rfl ?_
      obtain ⟨v10, e9, h⟩ := sw_bind h
      refine ga_iald qd34_36 (sw_rk hn hb 3 (by decide)) e9 ?_
      refine go_s qd34_37 rfl ?_
      obtain ⟨_u, e11, h⟩ := sw_bind h
      by_cases hb12 : v10 = (-1)
      · replace h := sw_ifY hb12 h
        refine ga_ceqY (t := 48) qd34_38 e11 hb12 rfl ?_
        refine go_l qd34_48 rfl ?_
        refine ga_gf (v := .ref (z + (b + 10))) qd34_49 qc34 qf3_47 (sw_rb hn hb) rfl rfl ?_
        refine go_l qd34_52 rfl ?_
        obtain ⟨r14, e13, h⟩ := sw_bind h
        refine ga_kv (a := (b + 10)) (as := [.int (Int32.ofInt p1)]) (rest := []) qd34_53 qk34_78 (sw_rk hn hb 10 (by decide)) rfl rfl rfl (Nat.le_of_ble_eq_true rfl) (Nat.le_of_ble_eq_true rfl) rfl (A18 hn hb e13 (sw_bkv ?_))
        obtain ⟨_u, e15, h⟩ := sw_bind h
        by_cases hb16 : 0 < r14
        · replace h := sw_ifY hb16 h
          refine ga_zleY (t := 68) qd34_56 e15 hb16 rfl ?_
          refine go_l qd34_59 rfl ?_
          refine ga_gf (v := .ref (z + (b + 10))) qd34_60 qc34 qf3_47 (sw_rb hn hb) rfl rfl ?_
          refine go_l qd34_63 rfl ?_
          obtain ⟨r18, e17, h⟩ := sw_bind h
          refine ga_kv (a := (b + 10)) (as := [.int (Int32.ofInt p1)]) (rest := []) qd34_64 qk34_111 (sw_rk hn hb 10 (by decide)) rfl rfl rfl (Nat.le_of_ble_eq_true rfl) (Nat.le_of_ble_eq_true rfl) rfl (A21 hn hb e17 (sw_bkv ?_))
          rw [← sw_sj h] at kk
          exact ga_ri qd34_67 qr34 kk
        · replace h := sw_ifN hb16 h
          refine ga_zleN (t := 68) qd34_56 e15 hb16 rfl ?_
          refine go_l qd34_68 rfl ?_
          obtain ⟨_u, e19, h⟩ := sw_bind h
          by_cases hb20 : p2 = 0
          · replace h := sw_ifY hb20 h
            refine ga_zeqY (t := 80) qd34_69 e19 hb20 rfl ?_
            refine go_s qd34_80 rfl ?_
            exact sq_weak (L := [some (.ref (z + b)), some (.int (Int32.ofInt p1)), none, none]) ⟨rfl, rfl, trivial⟩ (B34_81 hn hb h kk)
          · replace h := sw_ifN hb20 h
            refine ga_zeqN (t := 80) qd34_69 e19 hb20 rfl ?_
            refine go_l qd34_72 rfl ?_
            refine go_l qd34_73 rfl ?_
            obtain ⟨r32, e31, h⟩ := sw_bind h
            refine ga_kv (a := b) (as := [.int (Int32.ofInt p1)]) (rest := []) qd34_74 qk34_114 (sw_rb hn hb) rfl rfl rfl (Nat.le_of_ble_eq_true rfl) (Nat.le_of_ble_eq_true rfl) rfl (A38 hn hb e31 (sw_bkv ?_))
            refine ga_jp (t := 81) qd34_77 rfl ?_
            exact sq_weak (L := [some (.ref (z + b)), some (.int (Int32.ofInt p1)), none, none]) ⟨rfl, rfl, trivial⟩ (B34_81 hn hb h kk)
      · replace h := sw_ifN hb12 h
        refine ga_ceqN (t := 48) qd34_38 e11 hb12 rfl ?_
        refine go_l qd34_41 rfl ?_
        refine go_l qd34_42 rfl ?_
        obtain ⟨r34, e33, h⟩ := sw_bind h
        refine ga_kv (a := b) (as := [.int (Int32.ofInt p1)]) (rest := []) qd34_43 qk34_107 (sw_rb hn hb) rfl rfl rfl (Nat.le_of_ble_eq_true rfl) (Nat.le_of_ble_eq_true rfl) rfl (A35 hn hb e33 (sw_bk0 ?_))
        refine go_s qd34_46 rfl ?_
        rw [← sw_sj h] at kk
        exact ga_ri qd34_47 qr34 kk
    · replace h := sw_ifN hb8 h
      refine ga_zeqN (t := 31) qd34_16 e7 hb8 rfl ?_
      refine go_l qd34_19 rfl ?_
      refine ga_gf (v := .ref (z + (b + 8))) qd34_20 qc34 qf3_38 (sw_rb hn hb) rfl rfl ?_
      refine go_l qd34_23 rfl ?_
      refine go_s qd34_24 rfl ?_
      obtain ⟨v36, e35, h⟩ := sw_bind h
      refine ga_iald qd34_25 (sw_rk hn hb 8 (by decide)) e35 ?_
      refine go_s qd34_26 rfl ?_
      refine ga_iadd qd34_27 ?_
      obtain ⟨T38, e37, h⟩ := sw_bind h
      refine ga_iast qd34_28 (sw_rk hn hb 8 (by decide)) e37 ?_
      refine go_s qd34_29 rfl ?_
      rw [← sw_sj h] at kk
      exact ga_ri qd34_30 qr34 kk
theorem qk37_74 : sw_ck 37 74 25 0 1 3 2 = true := by decide +kernel
theorem qr37 : sq_ret 37 = none := by decide +kernel
theorem qc37 : sq_c 37 = 3 := by decide +kernel
theorem qk37_129 : sw_ck 37 129 55 0 3 4 4 = true := by decide +kernel
theorem qk37_123 : sw_ck 37 123 53 0 1 4 2 = true := by decide +kernel
theorem qk37_126 : sw_ck 37 126 54 0 2 4 3 = true := by decide +kernel
theorem qk37_133 : sw_ck 37 133 30 0 2 3 4 = true := by decide +kernel
-- 37: SewingPiles$Room.takeIntoHand(II)V
def w37 (b : Nat) (T : sw_T) (p1 : Int) (p2 : Int) : Option (sw_T) :=
  (w25 b T p1).bind fun r2 =>
  (sw_r1 r2).bind fun _u =>
  if r2 = 0 then
    some (T)
  else
    (sw_st T (b + 3) 7 p1 p2).bind fun T6 =>
    (sw_st T6 (b + 4) 7 p1 0).bind fun T8 =>
    (sw_pf T8 b 2 ((T8 b 2) + 1)).bind fun T9 =>
    (w55 b T9 p2 1 p1).bind fun r12 =>
    (w53 b r12 p2).bind fun r14 =>
    (sw_ld r12 (b + 1) 3 0).bind fun v16 =>
    (sw_r2 r14 v16).bind fun _u =>
    if v16 < r14 then
      (sw_r2 (r12 (b + 20) 0) 120).bind fun _u =>
      if (r12 (b + 20) 0) < 120 then
        (sw_dv r14 2).bind fun _u =>
        (w54 b r12 p2 (r14 - (r14 / 2))).bind fun r23 =>
        (sw_pf r23 b 3 ((r23 b 3) + 1)).bind fun T24 =>
        (w30 b T24 p1 (r14 / 2)).bind fun r27 =>
        some (r27.2)
      else
        some (r12)
    else
      some (r12)
theorem A37 {G : sp_G} {z n : Nat} (hn : 228 ≤ n) {b : Nat} (hb : b ∈ sw_rm) {T : sw_T} {K : sw_K} {p1 : Int} {p2 : Int} {res : sw_T} {Q : sp_R → sp_M → Prop} (h : w37 b T p1 p2 = some res) (kk : Q (.inl none) (sw_M z n sw_Ft res K)) : sq_go G 37 0 [some (.ref (z + b)), some (.int (Int32.ofInt p1)), some (.int (Int32.ofInt p2)), none, none] [] (sw_M z n sw_Ft T K) Q := by
  unfold w37 at h
  refine go_l qd37_0 rfl ?_
  refine go_l qd37_1 rfl ?_
  obtain ⟨r2, e1, h⟩ := sw_bind h
  refine ga_kv (a := b) (as := [.int (Int32.ofInt p1)]) (rest := []) qd37_2 qk37_74 (sw_rb hn hb) rfl rfl rfl (Nat.le_of_ble_eq_true rfl) (Nat.le_of_ble_eq_true rfl) rfl (A25 hn hb e1 (sw_bkv ?_))
  obtain ⟨_u, e3, h⟩ := sw_bind h
  by_cases hb4 : r2 = 0
  · replace h := sw_ifY hb4 h
    refine ga_zneY (t := 9) qd37_5 e3 hb4 rfl ?_
    rw [← sw_sj h] at kk
    exact ga_rv qd37_8 qr37 kk
  · replace h := sw_ifN hb4 h
    refine ga_zneN (t := 9) qd37_5 e3 hb4 rfl ?_
    refine go_l qd37_9 rfl ?_
    refine ga_gf (v := .ref (z + (b + 3))) qd37_10 qc37 qf3_22 (sw_rb hn hb) rfl rfl ?_
    refine go_l qd37_13 rfl ?_
    refine go_l qd37_14 rfl ?_
    obtain ⟨T6, e5, h⟩ := sw_bind h
    refine ga_iast qd37_15 (sw_rk hn hb 3 (by decide)) e5 ?_
    refine go_l qd37_16 rfl ?_
    refine ga_gf (v := .ref (z + (b + 4))) qd37_17 qc37 qf3_25 (sw_rb hn hb) rfl rfl ?_
    refine go_l qd37_20 rfl ?_
    refine go_s qd37_21 rfl ?_
    obtain ⟨T8, e7, h⟩ := sw_bind h
    refine ga_iast qd37_22 (sw_rk hn hb 4 (by decide)) e7 ?_
    refine go_l qd37_23 rfl ?_
    refine go_s qd37_24 rfl ?_
    refine ga_gf (v := .int (Int32.ofInt (T8 b 2))) qd37_25 qc37 qf3_61 (sw_rb hn hb) rfl rfl ?_
    refine go_s qd37_28 rfl ?_
    refine ga_iadd qd37_29 ?_
    obtain ⟨T9, e10, h⟩ := sw_bind h
    refine ga_pfi qd37_30 qc37 qg3_61 (sw_rb hn hb) rfl qi3_2 e10 ?_
    refine go_l qd37_33 rfl ?_
    refine ga_gf (v := .ref (z + (b + 20))) qd37_34 qc37 qf3_54 (sw_rb hn hb) rfl rfl ?_
    refine go_l qd37_37 rfl ?_
    refine go_s qd37_38 rfl ?_
    refine go_l qd37_39 rfl ?_
    obtain ⟨r12, e11, h⟩ := sw_bind h
    refine ga_kv (a := (b + 20)) (as := [.int (Int32.ofInt p2), .int (Int32.ofInt 1), .int (Int32.ofInt p1)]) (rest := []) qd37_40 qk37_129 (sw_rk hn hb 20 (by decide)) rfl rfl rfl (Nat.le_of_ble_eq_true rfl) (Nat.le_of_ble_eq_true rfl) rfl (A55 hn hb e11 (sw_bk0 ?_))
    refine go_l qd37_43 rfl ?_
    refine ga_gf (v := .ref (z + (b + 20))) qd37_44 qc37 qf3_54 (sw_rb hn hb) rfl rfl ?_
    refine go_l qd37_47 rfl ?_
    obtain ⟨r14, e13, h⟩ := sw_bind h
    refine ga_kv (a := (b + 20)) (as := [.int (Int32.ofInt p2)]) (rest := []) qd37_48 qk37_123 (sw_rk hn hb 20 (by decide)) rfl rfl rfl (Nat.le_of_ble_eq_true rfl) (Nat.le_of_ble_eq_true rfl) rfl (A53 hn hb e13 (sw_bkv ?_))
    refine go_l (L' := [some (.ref (z + b)), some (.int (Int32.ofInt p1)), some (.int (Int32.ofInt p2)), some (.int (Int32.ofInt r14)), none]) (st' := []) qd37_51 rfl ?_
    refine go_l qd37_52 rfl ?_
    refine go_l qd37_53 rfl ?_
    refine ga_gf (v := .ref (z + (b + 1))) qd37_54 qc37 qf3_15 (sw_rb hn hb) rfl rfl ?_
    refine go_s qd37_57 rfl ?_
    obtain ⟨v16, e15, h⟩ := sw_bind h
    refine ga_iald qd37_58 (sw_rk hn hb 1 (by decide)) e15 ?_
    obtain ⟨_u, e17, h⟩ := sw_bind h
    by_cases hb18 : v16 < r14
    · replace h := sw_ifY hb18 h
      refine ga_cleY (t := 109) qd37_59 e17 hb18 rfl ?_
      refine go_l qd37_62 rfl ?_
      refine ga_gf (v := .ref (z + (b + 20))) qd37_63 qc37 qf3_54 (sw_rb hn hb) rfl rfl ?_
      refine ga_gf (v := .int (Int32.ofInt (r12 (b + 20) 0))) qd37_66 qc37 qf3_82 (sw_rk hn hb 20 (by decide)) rfl rfl ?_
      refine ga_k8 qd37_69 rfl ?_
      obtain ⟨_u, e19, h⟩ := sw_bind h
      by_cases hb20 : (r12 (b + 20) 0) < 120
      · replace h := sw_ifY hb20 h
        refine ga_cgeY (t := 109) qd37_71 e19 hb20 rfl ?_
        refine go_l qd37_74 rfl ?_
        refine go_s qd37_75 rfl ?_
        obtain ⟨_u, e21, h⟩ := sw_bind h
        refine ga_idiv qd37_76 e21 ?_
        refine go_l (L' := [some (.ref (z + b)), some (.int (Int32.ofInt p1)), some (.int (Int32.ofInt p2)), some (.int (Int32.ofInt r14)), some (.int (Int32.ofInt (r14 / 2)))]) (st' := []) qd37_77 rfl ?_
        refine go_l qd37_79 rfl ?_
        refine ga_gf (v := .ref (z + (b + 20))) qd37_80 qc37 qf3_54 (sw_rb hn hb) rfl rfl ?_
        refine go_l qd37_83 rfl ?_
        refine go_l qd37_84 rfl ?_
        refine go_l qd37_85 rfl ?_
        refine ga_isub qd37_87 ?_
        obtain ⟨r23, e22, h⟩ := sw_bind h
        refine ga_kv (a := (b + 20)) (as := [.int (Int32.ofInt p2), .int (Int32.ofInt (r14 - (r14 / 2)))]) (rest := []) qd37_88 qk37_126 (sw_rk hn hb 20 (by decide)) rfl rfl rfl (Nat.le_of_ble_eq_true rfl) (Nat.le_of_ble_eq_true rfl) rfl (A54 hn hb e22 (sw_bk0 ?_))
        refine go_l qd37_91 rfl ?_
        refine go_s qd37_92 rfl ?_
        refine ga_gf (v := .int (Int32.ofInt (r23 b 3))) qd37_93 qc37 qf3_64 (sw_rb hn hb) rfl rfl ?_
        refine go_s qd37_96 rfl ?_
        refine ga_iadd qd37_97 ?_
        obtain ⟨T24, e25, h⟩ := sw_bind h
        refine ga_pfi qd37_98 qc37 qg3_64 (sw_rb hn hb) rfl qi3_3 e25 ?_
        refine go_l qd37_101 rfl ?_
        refine go_l qd37_102 rfl ?_
        refine go_l qd37_103 rfl ?_
        obtain ⟨r27, e26, h⟩ := sw_bind h
        refine ga_kv (a := b) (as := [.int (Int32.ofInt p1), .int (Int32.ofInt (r14 / 2))]) (rest := []) qd37_105 qk37_133 (sw_rb hn hb) rfl rfl rfl (Nat.le_of_ble_eq_true rfl) (Nat.le_of_ble_eq_true rfl) rfl (A30 hn hb e26 (sw_bkv ?_))
        refine go_s qd37_108 rfl ?_
        rw [← sw_sj h] at kk
        exact ga_rv qd37_109 qr37 kk
      · replace h := sw_ifN hb20 h
        refine ga_cgeN (t := 109) qd37_71 e19 hb20 rfl ?_
        rw [← sw_sj h] at kk
        exact ga_rv qd37_109 qr37 kk
    · replace h := sw_ifN hb18 h
      refine ga_cleN (t := 109) qd37_59 e17 hb18 rfl ?_
      rw [← sw_sj h] at kk
      exact ga_rv qd37_109 qr37 kk
theorem qc33 : sq_c 33 = 3 := by decide +kernel
theorem qk33_100 : sw_ck 33 100 34 0 2 3 4 = true := by decide +kernel
theorem qk33_104 : sw_ck 33 104 37 0 2 3 5 = true := by decide +kernel
theorem qr33 : sq_ret 33 = none := by decide +kernel
-- 33: SewingPiles$Room.passMinute(Z)V
def w33_2 (b : Nat) (l1 : Int) : Nat → sw_T → Int → Option (sw_T)
  | 0, _, _ => none
  | m + 1, T, l2 =>
    (sw_r2 l2 (T b 1)).bind fun _u =>
    if l2 < (T b 1) then
      (sw_r2 l2 7).bind fun _u =>
      if l2 < 7 then
        (w34 b T l2 l1).bind fun r6 =>
        (sw_r2 r6.1 (-1)).bind fun _u =>
        if r6.1 = (-1) then
          w33_2 b l1 m r6.2 (l2 + 1)
        else
          (w37 b r6.2 l2 r6.1).bind fun r10 =>
          w33_2 b l1 m r10 (l2 + 1)
      else
        some (T)
    else
      some (T)
theorem B33_2 {G : sp_G} {z n : Nat} (hn : 228 ≤ n) {b : Nat} (hb : b ∈ sw_rm) {l1 : Int} {K : sw_K} {res : sw_T} {Q : sp_R → sp_M → Prop} (kk : sq_go G 33 40 [some (.ref (z + b)), none, none, none] [] (sw_M z n sw_Ft res K) Q) : ∀ (m : Nat) (T : sw_T) (l2 : Int), w33_2 b l1 m T l2 = some res → sq_go G 33 2 [some (.ref (z + b)), some (.int (Int32.ofInt l1)), some (.int (Int32.ofInt l2)), none] [] (sw_M z n sw_Ft T K) Q := by
  intro m
  induction m with
  | zero => intro T l2 h; cases h
  | succ m ih =>
    intro T l2 h
    rw [w33_2] at h
    refine go_l qd33_2 rfl ?_
    refine go_l qd33_3 rfl ?_
    refine ga_gf (v := .int (Int32.ofInt (T b 1))) qd33_4 qc33 qf3_9 (sw_rb hn hb) rfl rfl ?_
    obtain ⟨_u, e1, h⟩ := sw_bind h
    by_cases hb2 : l2 < (T b 1)
    · replace h := sw_ifY hb2 h
      refine ga_cgeY (t := 40) qd33_7 e1 hb2 rfl ?_
      refine go_l qd33_10 rfl ?_
      refine ga_k8 qd33_11 rfl ?_
      obtain ⟨_u, e3, h⟩ := sw_bind h
      by_cases hb4 : l2 < 7
      · replace h := sw_ifY hb4 h
        refine ga_cgeY (t := 40) qd33_13 e3 hb4 rfl ?_
        refine go_l qd33_16 rfl ?_
        refine go_l qd33_17 rfl ?_
        refine go_l qd33_18 rfl ?_
        obtain ⟨r6, e5, h⟩ := sw_bind h
        refine ga_kv (a := b) (as := [.int (Int32.ofInt l2), .int (Int32.ofInt l1)]) (rest := []) qd33_19 qk33_100 (sw_rb hn hb) rfl rfl rfl (Nat.le_of_ble_eq_true rfl) (Nat.le_of_ble_eq_true rfl) rfl (A34 hn hb e5 (sw_bkv ?_))
        refine go_l (L' := [some (.ref (z + b)), some (.int (Int32.ofInt l1)), some (.int (Int32.ofInt l2)), some (.int (Int32.ofInt r6.1))]) (st' := []) qd33_22 rfl ?_
        refine go_l qd33_23 rfl ?_
        refine go_s qd33_24 rfl ?_
        obtain ⟨_u, e7, h⟩ := sw_bind h
        by_cases hb8 : r6.1 = (-1)
        · replace h := sw_ifY hb8 h
          refine ga_ceqY (t := 34) qd33_25 e7 hb8 rfl ?_
          refine ga_ii (L' := [some (.ref (z + b)), some (.int (Int32.ofInt l1)), some (.int (Int32.ofInt (l2 + 1))), some (.int (Int32.ofInt r6.1))]) qd33_34 rfl rfl ?_
          refine ga_jp (t := 2) qd33_37 rfl ?_
          exact sq_weak (L := [some (.ref (z + b)), some (.int (Int32.ofInt l1)), some (.int (Int32.ofInt (l2 + 1))), none]) ⟨rfl, rfl, rfl, trivial⟩ (ih _ _ h)
        · replace h := sw_ifN hb8 h
          refine ga_ceqN (t := 34) qd33_25 e7 hb8 rfl ?_
          refine go_l qd33_28 rfl ?_
          refine go_l qd33_29 rfl ?_
          refine go_l qd33_30 rfl ?_
          obtain ⟨r10, e9, h⟩ := sw_bind h
          refine ga_kv (a := b) (as := [.int (Int32.ofInt l2), .int (Int32.ofInt r6.1)]) (rest := []) qd33_31 qk33_104 (sw_rb hn hb) rfl rfl rfl (Nat.le_of_ble_eq_true rfl) (Nat.le_of_ble_eq_true rfl) rfl (A37 hn hb e9 (sw_bk0 ?_))
          refine ga_ii (L' := [some (.ref (z + b)), some (.int (Int32.ofInt l1)), some (.int (Int32.ofInt (l2 + 1))), some (.int (Int32.ofInt r6.1))]) qd33_34 rfl rfl ?_
          refine ga_jp (t := 2) qd33_37 rfl ?_
          exact sq_weak (L := [some (.ref (z + b)), some (.int (Int32.ofInt l1)), some (.int (Int32.ofInt (l2 + 1))), none]) ⟨rfl, rfl, rfl, trivial⟩ (ih _ _ h)
      · replace h := sw_ifN hb4 h
        refine ga_cgeN (t := 40) qd33_13 e3 hb4 rfl ?_
        rw [← sw_sj h] at kk
        exact sq_weak (L := [some (.ref (z + b)), none, none, none]) ⟨rfl, trivial⟩ kk
    · replace h := sw_ifN hb2 h
      refine ga_cgeN (t := 40) qd33_7 e1 hb2 rfl ?_
      rw [← sw_sj h] at kk
      exact sq_weak (L := [some (.ref (z + b)), none, none, none]) ⟨rfl, trivial⟩ kk
def w33 (b : Nat) (T : sw_T) (p1 : Int) : Option (sw_T) :=
  (w33_2 b p1 sw_N T 0).bind fun x11 =>
  (sw_pf x11 b 0 ((x11 b 0) + 1)).bind fun T13 =>
  some (T13)
theorem A33 {G : sp_G} {z n : Nat} (hn : 228 ≤ n) {b : Nat} (hb : b ∈ sw_rm) {T : sw_T} {K : sw_K} {p1 : Int} {res : sw_T} {Q : sp_R → sp_M → Prop} (h : w33 b T p1 = some res) (kk : Q (.inl none) (sw_M z n sw_Ft res K)) : sq_go G 33 0 [some (.ref (z + b)), some (.int (Int32.ofInt p1)), none, none] [] (sw_M z n sw_Ft T K) Q := by
  unfold w33 at h
  refine go_s qd33_0 rfl ?_
  refine go_l (L' := [some (.ref (z + b)), some (.int (Int32.ofInt p1)), some (.int (Int32.ofInt 0)), none]) (st' := []) qd33_1 rfl ?_
  obtain ⟨x11, e12, h⟩ := sw_bind h
  refine sq_weak (L := [some (.ref (z + b)), some (.int (Int32.ofInt p1)), some (.int (Int32.ofInt 0)), none]) ⟨rfl, rfl, rfl, trivial⟩ (B33_2 hn hb (res := x11) ?_ _ _ _ e12)
  refine go_l qd33_40 rfl ?_
  refine go_s qd33_41 rfl ?_
  refine ga_gf (v := .int (Int32.ofInt (x11 b 0))) qd33_42 qc33 qf3_58 (sw_rb hn hb) rfl rfl ?_
  refine go_s qd33_45 rfl ?_
  refine ga_iadd qd33_46 ?_
  obtain ⟨T13, e14, h⟩ := sw_bind h
  refine ga_pfi qd33_47 qc33 qg3_58 (sw_rb hn hb) rfl qi3_0 e14 ?_
  rw [← sw_sj h] at kk
  exact ga_rv qd33_50 qr33 kk
theorem qk32_96 : sw_ck 32 96 33 0 1 3 4 = true := by decide +kernel
theorem qr32 : sq_ret 32 = none := by decide +kernel
-- 32: SewingPiles$Room.passMinutes(I)V
def w32_2 (b : Nat) (l1 : Int) : Nat → sw_T → Int → Option (sw_T)
  | 0, _, _ => none
  | m + 1, T, l2 =>
    (sw_r2 l2 l1).bind fun _u =>
    if l2 < l1 then
      (w33 b T 1).bind fun r4 =>
      w32_2 b l1 m r4 (l2 + 1)
    else
      some (T)
theorem B32_2 {G : sp_G} {z n : Nat} (hn : 228 ≤ n) {b : Nat} (hb : b ∈ sw_rm) {l1 : Int} {K : sw_K} {res : sw_T} {Q : sp_R → sp_M → Prop} (kk : sq_go G 32 18 [none, none, none] [] (sw_M z n sw_Ft res K) Q) : ∀ (m : Nat) (T : sw_T) (l2 : Int), w32_2 b l1 m T l2 = some res → sq_go G 32 2 [some (.ref (z + b)), some (.int (Int32.ofInt l1)), some (.int (Int32.ofInt l2))] [] (sw_M z n sw_Ft T K) Q := by
  intro m
  induction m with
  | zero => intro T l2 h; cases h
  | succ m ih =>
    intro T l2 h
    rw [w32_2] at h
    refine go_l qd32_2 rfl ?_
    refine go_l qd32_3 rfl ?_
    obtain ⟨_u, e1, h⟩ := sw_bind h
    by_cases hb2 : l2 < l1
    · replace h := sw_ifY hb2 h
      refine ga_cgeY (t := 18) qd32_4 e1 hb2 rfl ?_
      refine go_l qd32_7 rfl ?_
      refine go_s qd32_8 rfl ?_
      obtain ⟨r4, e3, h⟩ := sw_bind h
      refine ga_kv (a := b) (as := [.int (Int32.ofInt 1)]) (rest := []) qd32_9 qk32_96 (sw_rb hn hb) rfl rfl rfl (Nat.le_of_ble_eq_true rfl) (Nat.le_of_ble_eq_true rfl) rfl (A33 hn hb e3 (sw_bk0 ?_))
      refine ga_ii (L' := [some (.ref (z + b)), some (.int (Int32.ofInt l1)), some (.int (Int32.ofInt (l2 + 1)))]) qd32_12 rfl rfl ?_
      refine ga_jp (t := 2) qd32_15 rfl ?_
      exact sq_weak (L := [some (.ref (z + b)), some (.int (Int32.ofInt l1)), some (.int (Int32.ofInt (l2 + 1)))]) ⟨rfl, rfl, rfl, trivial⟩ (ih _ _ h)
    · replace h := sw_ifN hb2 h
      refine ga_cgeN (t := 18) qd32_4 e1 hb2 rfl ?_
      rw [← sw_sj h] at kk
      exact sq_weak (L := [none, none, none]) trivial kk
def w32 (b : Nat) (T : sw_T) (p1 : Int) : Option (sw_T) :=
  (w32_2 b p1 sw_N T 0).bind fun x5 =>
  some (x5)
theorem A32 {G : sp_G} {z n : Nat} (hn : 228 ≤ n) {b : Nat} (hb : b ∈ sw_rm) {T : sw_T} {K : sw_K} {p1 : Int} {res : sw_T} {Q : sp_R → sp_M → Prop} (h : w32 b T p1 = some res) (kk : Q (.inl none) (sw_M z n sw_Ft res K)) : sq_go G 32 0 [some (.ref (z + b)), some (.int (Int32.ofInt p1)), none] [] (sw_M z n sw_Ft T K) Q := by
  unfold w32 at h
  refine go_s qd32_0 rfl ?_
  refine go_l (L' := [some (.ref (z + b)), some (.int (Int32.ofInt p1)), some (.int (Int32.ofInt 0))]) (st' := []) qd32_1 rfl ?_
  obtain ⟨x5, e6, h⟩ := sw_bind h
  refine sq_weak (L := [some (.ref (z + b)), some (.int (Int32.ofInt p1)), some (.int (Int32.ofInt 0))]) ⟨rfl, rfl, rfl, trivial⟩ (B32_2 hn hb (res := x5) ?_ _ _ _ e6)
  rw [← sw_sj h] at kk
  exact ga_rv qd32_18 qr32 kk
theorem qc48 : sq_c 48 = 3 := by decide +kernel
theorem qr48 : sq_ret 48 = some .int := by decide +kernel
-- 48: SewingPiles$Room.total([I)I
def w48_8 (b : Nat) (r : Nat) (T : sw_T) : Nat → Int → Int → Option (Int)
  | 0, _, _ => none
  | m + 1, l2, l3 =>
    (sw_r2 l3 (T b 1)).bind fun _u =>
    if l3 < (T b 1) then
      (sw_r2 l3 ((7 : Nat) : Int)).bind fun _u =>
      if l3 < ((7 : Nat) : Int) then
        (sw_ld T r 7 l3).bind fun v6 =>
        w48_8 b r T m (l2 + v6) (l3 + 1)
      else
        some (l2)
    else
      some (l2)
theorem B48_8 {G : sp_G} {z n : Nat} (hn : 228 ≤ n) {b : Nat} (hb : b ∈ sw_rm) {r : Nat} (hr : sw_s n r = some (0, 7)) {T : sw_T} {K : sw_K} {res : Int} {Q : sp_R → sp_M → Prop} (kk : sq_go G 48 34 [none, none, some (.int (Int32.ofInt res)), none] [] (sw_M z n sw_Ft T K) Q) : ∀ (m : Nat) (l2 : Int) (l3 : Int), w48_8 b r T m l2 l3 = some res → sq_go G 48 8 [some (.ref (z + b)), some (.ref (z + r)), some (.int (Int32.ofInt l2)), some (.int (Int32.ofInt l3))] [] (sw_M z n sw_Ft T K) Q := by
  intro m
  induction m with
  | zero => intro l2 l3 h; cases h
  | succ m ih =>
    intro l2 l3 h
    rw [w48_8] at h
    refine go_l qd48_8 rfl ?_
    refine go_l qd48_9 rfl ?_
    refine ga_gf (v := .int (Int32.ofInt (T b 1))) qd48_10 qc48 qf3_9 (sw_rb hn hb) rfl rfl ?_
    obtain ⟨_u, e1, h⟩ := sw_bind h
    by_cases hb2 : l3 < (T b 1)
    · replace h := sw_ifY hb2 h
      refine ga_cgeY (t := 34) qd48_13 e1 hb2 rfl ?_
      refine go_l qd48_16 rfl ?_
      refine go_l qd48_17 rfl ?_
      refine ga_al qd48_18 hr ?_
      obtain ⟨_u, e3, h⟩ := sw_bind h
      by_cases hb4 : l3 < ((7 : Nat) : Int)
      · replace h := sw_ifY hb4 h
        refine ga_cgeY (t := 34) qd48_19 e3 hb4 rfl ?_
        refine go_l qd48_22 rfl ?_
        refine go_l qd48_23 rfl ?_
        refine go_l qd48_24 rfl ?_
        obtain ⟨v6, e5, h⟩ := sw_bind h
        refine ga_iald qd48_25 hr e5 ?_
        refine ga_iadd qd48_26 ?_
        refine go_l (L' := [some (.ref (z + b)), some (.ref (z + r)), some (.int (Int32.ofInt (l2 + v6))), some (.int (Int32.ofInt l3))]) (st' := []) qd48_27 rfl ?_
        refine ga_ii (L' := [some (.ref (z + b)), some (.ref (z + r)), some (.int (Int32.ofInt (l2 + v6))), some (.int (Int32.ofInt (l3 + 1)))]) qd48_28 rfl rfl ?_
        refine ga_jp (t := 8) qd48_31 rfl ?_
        exact sq_weak (L := [some (.ref (z + b)), some (.ref (z + r)), some (.int (Int32.ofInt (l2 + v6))), some (.int (Int32.ofInt (l3 + 1)))]) ⟨rfl, rfl, rfl, rfl, trivial⟩ (ih _ _ h)
      · replace h := sw_ifN hb4 h
        refine ga_cgeN (t := 34) qd48_19 e3 hb4 rfl ?_
        rw [← sw_sj h] at kk
        exact sq_weak (L := [none, none, some (.int (Int32.ofInt l2)), none]) ⟨rfl, trivial⟩ kk
    · replace h := sw_ifN hb2 h
      refine ga_cgeN (t := 34) qd48_13 e1 hb2 rfl ?_
      rw [← sw_sj h] at kk
      exact sq_weak (L := [none, none, some (.int (Int32.ofInt l2)), none]) ⟨rfl, trivial⟩ kk
def w48 (b : Nat) (r : Nat) (T : sw_T) : Option (Int) :=
  (w48_8 b r T sw_N 0 0).bind fun x7 =>
  some (x7)
theorem A48 {G : sp_G} {z n : Nat} (hn : 228 ≤ n) {b : Nat} (hb : b ∈ sw_rm) {r : Nat} (hr : sw_s n r = some (0, 7)) {T : sw_T} {K : sw_K} {res : Int} {Q : sp_R → sp_M → Prop} (h : w48 b r T = some res) (kk : Q (.inl (some (.int (Int32.ofInt res)))) (sw_M z n sw_Ft T K)) : sq_go G 48 0 [some (.ref (z + b)), some (.ref (z + r)), none, none] [] (sw_M z n sw_Ft T K) Q := by
  unfold w48 at h
  refine go_s qd48_0 rfl ?_
  refine go_l (L' := [some (.ref (z + b)), some (.ref (z + r)), some (.int (Int32.ofInt 0)), none]) (st' := []) qd48_1 rfl ?_
  refine go_l qd48_2 rfl ?_
  refine go_j qd48_3 rfl ?_
  refine go_s qd48_6 rfl ?_
  refine go_l (L' := [some (.ref (z + b)), some (.ref (z + r)), some (.int (Int32.ofInt 0)), some (.int (Int32.ofInt 0))]) (st' := []) qd48_7 rfl ?_
  obtain ⟨x7, e8, h⟩ := sw_bind h
  refine sq_weak (L := [some (.ref (z + b)), some (.ref (z + r)), some (.int (Int32.ofInt 0)), some (.int (Int32.ofInt 0))]) ⟨rfl, rfl, rfl, rfl, trivial⟩ (B48_8 hn hb hr (res := x7) ?_ _ _ _ e8)
  refine go_l qd48_34 rfl ?_
  rw [← sw_sj h] at kk
  exact ga_ri qd48_35 qr48 kk
theorem qc45 : sq_c 45 = 3 := by decide +kernel
theorem qk45_158 : sw_ck 45 158 48 0 1 3 4 = true := by decide +kernel
theorem qr45 : sq_ret 45 = some .int := by decide +kernel
-- 45: SewingPiles$Room.sewnShirts()I
def w45 (b : Nat) (T : sw_T) : Option (Int) :=
  (w48 b (b + 6) T).bind fun r2 =>
  some (r2)
theorem A45 {G : sp_G} {z n : Nat} (hn : 228 ≤ n) {b : Nat} (hb : b ∈ sw_rm) {T : sw_T} {K : sw_K} {res : Int} {Q : sp_R → sp_M → Prop} (h : w45 b T = some res) (kk : Q (.inl (some (.int (Int32.ofInt res)))) (sw_M z n sw_Ft T K)) : sq_go G 45 0 [some (.ref (z + b))] [] (sw_M z n sw_Ft T K) Q := by
  unfold w45 at h
  refine go_l qd45_0 rfl ?_
  refine go_l qd45_1 rfl ?_
  refine ga_gf (v := .ref (z + (b + 6))) qd45_2 qc45 qf3_32 (sw_rb hn hb) rfl rfl ?_
  obtain ⟨r2, e1, h⟩ := sw_bind h
  refine ga_kv (a := b) (as := [.ref (z + (b + 6))]) (rest := []) qd45_5 qk45_158 (sw_rb hn hb) rfl rfl rfl (Nat.le_of_ble_eq_true rfl) (Nat.le_of_ble_eq_true rfl) rfl (A48 hn hb (sw_rk hn hb 6 (by decide)) e1 (sw_bkv ?_))
  rw [← sw_sj h] at kk
  exact ga_ri qd45_8 qr45 kk
theorem qc47 : sq_c 47 = 3 := by decide +kernel
theorem qr47 : sq_ret 47 = some .int := by decide +kernel
-- 47: SewingPiles$Room.sleepers()I
def w47_4 (b : Nat) (T : sw_T) : Nat → Int → Int → Option (Int)
  | 0, _, _ => none
  | m + 1, l1, l2 =>
    (sw_r2 l2 (T b 1)).bind fun _u =>
    if l2 < (T b 1) then
      (sw_r2 l2 7).bind fun _u =>
      if l2 < 7 then
        (sw_ld T (b + 5) 7 l2).bind fun v6 =>
        (sw_r1 v6).bind fun _u =>
        if v6 = 0 then
          w47_4 b T m l1 (l2 + 1)
        else
          w47_4 b T m (l1 + 1) (l2 + 1)
      else
        some (l1)
    else
      some (l1)
theorem B47_4 {G : sp_G} {z n : Nat} (hn : 228 ≤ n) {b : Nat} (hb : b ∈ sw_rm) {T : sw_T} {K : sw_K} {res : Int} {Q : sp_R → sp_M → Prop} (kk : sq_go G 47 36 [none, some (.int (Int32.ofInt res)), none] [] (sw_M z n sw_Ft T K) Q) : ∀ (m : Nat) (l1 : Int) (l2 : Int), w47_4 b T m l1 l2 = some res → sq_go G 47 4 [some (.ref (z + b)), some (.int (Int32.ofInt l1)), some (.int (Int32.ofInt l2))] [] (sw_M z n sw_Ft T K) Q := by
  intro m
  induction m with
  | zero => intro l1 l2 h; cases h
  | succ m ih =>
    intro l1 l2 h
    rw [w47_4] at h
    refine go_l qd47_4 rfl ?_
    refine go_l qd47_5 rfl ?_
    refine ga_gf (v := .int (Int32.ofInt (T b 1))) qd47_6 qc47 qf3_9 (sw_rb hn hb) rfl rfl ?_
    obtain ⟨_u, e1, h⟩ := sw_bind h
    by_cases hb2 : l2 < (T b 1)
    · replace h := sw_ifY hb2 h
      refine ga_cgeY (t := 36) qd47_9 e1 hb2 rfl ?_
      refine go_l qd47_12 rfl ?_
      refine ga_k8 qd47_13 rfl ?_
      obtain ⟨_u, e3, h⟩ := sw_bind h
      by_cases hb4 : l2 < 7
      · replace h := sw_ifY hb4 h
        refine ga_cgeY (t := 36) qd47_15 e3 hb4 rfl ?_
        refine go_l qd47_18 rfl ?_
        refine ga_gf (v := .ref (z + (b + 5))) qd47_19 qc47 qf3_28 (sw_rb hn hb) rfl rfl ?_
        refine go_l qd47_22 rfl ?_
        obtain ⟨v6, e5, h⟩ := sw_bind h
        refine ga_bald qd47_23 (sw_rk hn hb 5 (by decide)) e5 ?_
        obtain ⟨_u, e7, h⟩ := sw_bind h
        by_cases hb8 : v6 = 0
        · replace h := sw_ifY hb8 h
          refine ga_zeqY (t := 30) qd47_24 e7 hb8 rfl ?_
          refine ga_ii (L' := [some (.ref (z + b)), some (.int (Int32.ofInt l1)), some (.int (Int32.ofInt (l2 + 1)))]) qd47_30 rfl rfl ?_
          refine ga_jp (t := 4) qd47_33 rfl ?_
          exact sq_weak (L := [some (.ref (z + b)), some (.int (Int32.ofInt l1)), some (.int (Int32.ofInt (l2 + 1)))]) ⟨rfl, rfl, rfl, trivial⟩ (ih _ _ h)
        · replace h := sw_ifN hb8 h
          refine ga_zeqN (t := 30) qd47_24 e7 hb8 rfl ?_
          refine ga_ii (L' := [some (.ref (z + b)), some (.int (Int32.ofInt (l1 + 1))), some (.int (Int32.ofInt l2))]) qd47_27 rfl rfl ?_
          refine ga_ii (L' := [some (.ref (z + b)), some (.int (Int32.ofInt (l1 + 1))), some (.int (Int32.ofInt (l2 + 1)))]) qd47_30 rfl rfl ?_
          refine ga_jp (t := 4) qd47_33 rfl ?_
          exact sq_weak (L := [some (.ref (z + b)), some (.int (Int32.ofInt (l1 + 1))), some (.int (Int32.ofInt (l2 + 1)))]) ⟨rfl, rfl, rfl, trivial⟩ (ih _ _ h)
      · replace h := sw_ifN hb4 h
        refine ga_cgeN (t := 36) qd47_15 e3 hb4 rfl ?_
        rw [← sw_sj h] at kk
        exact sq_weak (L := [none, some (.int (Int32.ofInt l1)), none]) ⟨rfl, trivial⟩ kk
    · replace h := sw_ifN hb2 h
      refine ga_cgeN (t := 36) qd47_9 e1 hb2 rfl ?_
      rw [← sw_sj h] at kk
      exact sq_weak (L := [none, some (.int (Int32.ofInt l1)), none]) ⟨rfl, trivial⟩ kk
def w47 (b : Nat) (T : sw_T) : Option (Int) :=
  (w47_4 b T sw_N 0 0).bind fun x9 =>
  some (x9)
theorem A47 {G : sp_G} {z n : Nat} (hn : 228 ≤ n) {b : Nat} (hb : b ∈ sw_rm) {T : sw_T} {K : sw_K} {res : Int} {Q : sp_R → sp_M → Prop} (h : w47 b T = some res) (kk : Q (.inl (some (.int (Int32.ofInt res)))) (sw_M z n sw_Ft T K)) : sq_go G 47 0 [some (.ref (z + b)), none, none] [] (sw_M z n sw_Ft T K) Q := by
  unfold w47 at h
  refine go_s qd47_0 rfl ?_
  refine go_l (L' := [some (.ref (z + b)), some (.int (Int32.ofInt 0)), none]) (st' := []) qd47_1 rfl ?_
  refine go_s qd47_2 rfl ?_
  refine go_l (L' := [some (.ref (z + b)), some (.int (Int32.ofInt 0)), some (.int (Int32.ofInt 0))]) (st' := []) qd47_3 rfl ?_
  obtain ⟨x9, e10, h⟩ := sw_bind h
  refine sq_weak (L := [some (.ref (z + b)), some (.int (Int32.ofInt 0)), some (.int (Int32.ofInt 0))]) ⟨rfl, rfl, rfl, trivial⟩ (B47_4 hn hb (res := x9) ?_ _ _ _ e10)
  refine go_l qd47_36 rfl ?_
  rw [← sw_sj h] at kk
  exact ga_ri qd47_37 qr47 kk
