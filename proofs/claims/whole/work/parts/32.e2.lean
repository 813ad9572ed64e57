/-! ===== the methods as functions over tables ===== -/
theorem qk41_145 : sw_ck 41 145 45 0 0 3 1 = true := by decide +kernel
theorem qc41 : sq_c 41 = 3 := by decide +kernel
theorem qr41 : sq_ret 41 = some .int := by decide +kernel
theorem qk41_149 : sw_ck 41 149 47 0 0 3 3 = true := by decide +kernel
theorem qk41_96 : sw_ck 41 96 33 0 1 3 4 = true := by decide +kernel
-- 41: SewingPiles$Room.minutesUntilDone(Z)I
def w41_2 (b : Nat) (l1 : Int) : Nat → sw_T → Int → Option ((sw_T) ⊕ (Int × sw_T))
  | 0, _, _ => none
  | m + 1, T, l2 =>
    (sw_r2 l2 2000).bind fun _u =>
    if 2000 < l2 then
      some (.inl T)
    else
      (w45 b T).bind fun r4 =>
      (sw_r2 r4 (T (b + 20) 0)).bind fun _u =>
      if r4 = (T (b + 20) 0) then
        some (.inr ((l2, T)))
      else
        (w47 b T).bind fun r8 =>
        (sw_r2 r8 (T b 1)).bind fun _u =>
        if r8 = (T b 1) then
          some (.inr (((-1), T)))
        else
          (w33 b T l1).bind fun r12 =>
          w41_2 b l1 m r12 (l2 + 1)
theorem B41_2 {G : sp_G} {z n : Nat} (hn : 228 ≤ n) {b : Nat} (hb : b ∈ sw_rm) {l1 : Int} {K : sw_K} {res : (sw_T) ⊕ (Int × sw_T)} {Q : sp_R → sp_M → Prop} (kk : ∀ s, res = .inl s → sq_go G 41 49 [none, none, none] [] (sw_M z n sw_Ft s K) Q) (kr : ∀ r, res = .inr r → Q (.inl (some (.int (Int32.ofInt r.1)))) (sw_M z n sw_Ft r.2 K)) : ∀ (m : Nat) (T : sw_T) (l2 : Int), w41_2 b l1 m T l2 = some res → sq_go G 41 2 [some (.ref (z + b)), some (.int (Int32.ofInt l1)), some (.int (Int32.ofInt l2))] [] (sw_M z n sw_Ft T K) Q := by
  intro m
  induction m with
  | zero => intro T l2 h; cases h
  | succ m ih =>
    intro T l2 h
    rw [w41_2] at h
    refine go_l qd41_2 rfl ?_
    refine ga_k16 qd41_3 rfl ?_
    obtain ⟨_u, e1, h⟩ := sw_bind h
    by_cases hb2 : 2000 < l2
    · replace h := sw_ifY hb2 h
      refine ga_cgtY (t := 49) qd41_6 e1 hb2 rfl ?_
      exact sq_weak (L := [none, none, none]) trivial (kk _ (sw_sj h).symm)
    · replace h := sw_ifN hb2 h
      refine ga_cgtN (t := 49) qd41_6 e1 hb2 rfl ?_
      refine go_l qd41_9 rfl ?_
      obtain ⟨r4, e3, h⟩ := sw_bind h
      refine ga_kv (a := b) (as := []) (rest := []) qd41_10 qk41_145 (sw_rb hn hb) rfl rfl rfl (Nat.le_of_ble_eq_true rfl) (Nat.le_of_ble_eq_true rfl) rfl (A45 hn hb e3 (sw_bkv ?_))
      refine go_l qd41_13 rfl ?_
      refine ga_gf (v := .ref (z + (b + 20))) qd41_14 qc41 qf3_54 (sw_rb hn hb) rfl rfl ?_
      refine ga_gf (v := .int (Int32.ofInt (T (b + 20) 0))) qd41_17 qc41 qf3_82 (sw_rk hn hb 20 (by decide)) rfl rfl ?_
      obtain ⟨_u, e5, h⟩ := sw_bind h
      by_cases hb6 : r4 = (T (b + 20) 0)
      · replace h := sw_ifY hb6 h
        refine ga_cneY (t := 25) qd41_20 e5 hb6 rfl ?_
        refine go_l qd41_23 rfl ?_
        exact ga_ri qd41_24 qr41 (kr _ (sw_sj h).symm)
      · replace h := sw_ifN hb6 h
        refine ga_cneN (t := 25) qd41_20 e5 hb6 rfl ?_
        refine go_l qd41_25 rfl ?_
        obtain ⟨r8, e7, h⟩ := sw_bind h
        refine ga_kv (a := b) (as := []) (rest := []) qd41_26 qk41_149 (sw_rb hn hb) rfl rfl rfl (Nat.le_of_ble_eq_true rfl) (Nat.le_of_ble_eq_true rfl) rfl (A47 hn hb e7 (sw_bkv ?_))
        refine go_l qd41_29 rfl ?_
        refine ga_gf (v := .int (Int32.ofInt (T b 1))) qd41_30 qc41 qf3_9 (sw_rb hn hb) rfl rfl ?_
        obtain ⟨_u, e9, h⟩ := sw_bind h
        by_cases hb10 : r8 = (T b 1)
        · replace h := sw_ifY hb10 h
          refine ga_cneY (t := 38) qd41_33 e9 hb10 rfl ?_
          refine go_s qd41_36 rfl ?_
          exact ga_ri qd41_37 qr41 (kr _ (sw_sj h).symm)
        · replace h := sw_ifN hb10 h
          refine ga_cneN (t := 38) qd41_33 e9 hb10 rfl ?_
          refine go_l qd41_38 rfl ?_
          refine go_l qd41_39 rfl ?_
          obtain ⟨r12, e11, h⟩ := sw_bind h
          refine ga_kv (a := b) (as := [.int (Int32.ofInt l1)]) (rest := []) qd41_40 qk41_96 (sw_rb hn hb) rfl rfl rfl (Nat.le_of_ble_eq_true rfl) (Nat.le_of_ble_eq_true rfl) rfl (A33 hn hb e11 (sw_bk0 ?_))
          refine ga_ii (L' := [some (.ref (z + b)), some (.int (Int32.ofInt l1)), some (.int (Int32.ofInt (l2 + 1)))]) qd41_43 rfl rfl ?_
          refine ga_jp (t := 2) qd41_46 rfl ?_
          exact sq_weak (L := [some (.ref (z + b)), some (.int (Int32.ofInt l1)), some (.int (Int32.ofInt (l2 + 1)))]) ⟨rfl, rfl, rfl, trivial⟩ (ih _ _ h)
def w41 (b : Nat) (T : sw_T) (p1 : Int) : Option (Int × sw_T) :=
  (w41_2 b p1 sw_N T 0).bind fun x13 =>
  sw_el x13 (fun x15 =>
    some (((-1), x15))
  ) (fun r => some r)
theorem A41 {G : sp_G} {z n : Nat} (hn : 228 ≤ n) {b : Nat} (hb : b ∈ sw_rm) {T : sw_T} {K : sw_K} {p1 : Int} {res : Int × sw_T} {Q : sp_R → sp_M → Prop} (h : w41 b T p1 = some res) (kk : Q (.inl (some (.int (Int32.ofInt res.1)))) (sw_M z n sw_Ft res.2 K)) : sq_go G 41 0 [some (.ref (z + b)), some (.int (Int32.ofInt p1)), none] [] (sw_M z n sw_Ft T K) Q := by
  unfold w41 at h
  refine go_s qd41_0 rfl ?_
  refine go_l (L' := [some (.ref (z + b)), some (.int (Int32.ofInt p1)), some (.int (Int32.ofInt 0))]) (st' := []) qd41_1 rfl ?_
  obtain ⟨x13, e14, h⟩ := sw_bind h
  refine sq_weak (L := [some (.ref (z + b)), some (.int (Int32.ofInt p1)), some (.int (Int32.ofInt 0))]) ⟨rfl, rfl, rfl, trivial⟩ (B41_2 hn hb (res := x13) (fun x15 g16 => ?_) (fun r g16 => ?_) _ _ _ e14)
  · replace h := sw_elL g16 h
    refine go_s qd41_49 rfl ?_
    rw [← sw_sj h] at kk
    exact ga_ri qd41_50 qr41 kk
  · replace h := sw_elR g16 h
    rw [← sw_sj h] at kk
    exact kk
theorem qk44_74 : sw_ck 44 74 25 0 1 3 2 = true := by decide +kernel
theorem qr44 : sq_ret 44 = some .int := by decide +kernel
theorem qc44 : sq_c 44 = 3 := by decide +kernel
theorem qk44_123 : sw_ck 44 123 53 0 1 4 2 = true := by decide +kernel
theorem qk44_142 : sw_ck 44 142 19 0 2 2 3 = true := by decide +kernel
-- 44: SewingPiles$Room.load(I)I
def w44_26 (b : Nat) (T : sw_T) (l1 : Int) : Nat → Int → Int → Option (Int)
  | 0, _, _ => none
  | m + 1, l2, l3 =>
    (sw_r2 l3 16).bind fun _u =>
    if l3 < 16 then
      (w19 b T l1 l3).bind fun r12 =>
      (w53 b T r12).bind fun r14 =>
      w44_26 b T l1 m (l2 + r14) (l3 + 1)
    else
      some (l2)
theorem B44_26 {G : sp_G} {z n : Nat} (hn : 228 ≤ n) {b : Nat} (hb : b ∈ sw_rm) {T : sw_T} {l1 : Int} {K : sw_K} {res : Int} {Q : sp_R → sp_M → Prop} (kk : sq_go G 44 57 [none, none, some (.int (Int32.ofInt res)), none] [] (sw_M z n sw_Ft T K) Q) : ∀ (m : Nat) (l2 : Int) (l3 : Int), w44_26 b T l1 m l2 l3 = some res → sq_go G 44 26 [some (.ref (z + b)), some (.int (Int32.ofInt l1)), some (.int (Int32.ofInt l2)), some (.int (Int32.ofInt l3))] [] (sw_M z n sw_Ft T K) Q := by
  intro m
  induction m with
  | zero => intro l2 l3 h; cases h
  | succ m ih =>
    intro l2 l3 h
    rw [w44_26] at h
    refine go_l qd44_26 rfl ?_
    refine ga_k8 qd44_27 rfl ?_
    obtain ⟨_u, e9, h⟩ := sw_bind h
    by_cases hb10 : l3 < 16
    · replace h := sw_ifY hb10 h
      refine ga_cgeY (t := 57) qd44_29 e9 hb10 rfl ?_
      refine go_l qd44_32 rfl ?_
      refine go_l qd44_33 rfl ?_
      refine ga_gf (v := .ref (z + (b + 20))) qd44_34 qc44 qf3_54 (sw_rb hn hb) rfl rfl ?_
      refine go_l qd44_37 rfl ?_
      refine ga_gf (v := .ref (z + (b + 10))) qd44_38 qc44 qf3_47 (sw_rb hn hb) rfl rfl ?_
      refine go_l qd44_41 rfl ?_
      refine go_l qd44_42 rfl ?_
      obtain ⟨r12, e11, h⟩ := sw_bind h
      refine ga_kv (a := (b + 10)) (as := [.int (Int32.ofInt l1), .int (Int32.ofInt l3)]) (rest := [.ref (z + (b + 20)), .int (Int32.ofInt l2)]) qd44_43 qk44_142 (sw_rk hn hb 10 (by decide)) rfl rfl rfl (Nat.le_of_ble_eq_true rfl) (Nat.le_of_ble_eq_true rfl) rfl (A19 hn hb e11 (sw_bkv ?_))
      obtain ⟨r14, e13, h⟩ := sw_bind h
      refine ga_kv (a := (b + 20)) (as := [.int (Int32.ofInt r12)]) (rest := [.int (Int32.ofInt l2)]) qd44_46 qk44_123 (sw_rk hn hb 20 (by decide)) rfl rfl rfl (Nat.le_of_ble_eq_true rfl) (Nat.le_of_ble_eq_true rfl) rfl (A53 hn hb e13 (sw_bkv ?_))
      refine ga_iadd qd44_49 ?_
      refine go_l (L' := [some (.ref (z + b)), some (.int (Int32.ofInt l1)), some (.int (Int32.ofInt (l2 + r14))), some (.int (Int32.ofInt l3))]) (st' := []) qd44_50 rfl ?_
      refine ga_ii (L' := [some (.ref (z + b)), some (.int (Int32.ofInt l1)), some (.int (Int32.ofInt (l2 + r14))), some (.int (Int32.ofInt (l3 + 1)))]) qd44_51 rfl rfl ?_
      refine ga_jp (t := 26) qd44_54 rfl ?_
      exact sq_weak (L := [some (.ref (z + b)), some (.int (Int32.ofInt l1)), some (.int (Int32.ofInt (l2 + r14))), some (.int (Int32.ofInt (l3 + 1)))]) ⟨rfl, rfl, rfl, rfl, trivial⟩ (ih _ _ h)
    · replace h := sw_ifN hb10 h
      refine ga_cgeN (t := 57) qd44_29 e9 hb10 rfl ?_
      rw [← sw_sj h] at kk
      exact sq_weak (L := [none, none, some (.int (Int32.ofInt l2)), none]) ⟨rfl, trivial⟩ kk
def w44 (b : Nat) (T : sw_T) (p1 : Int) : Option (Int) :=
  (w25 b T p1).bind fun r2 =>
  (sw_r1 r2).bind fun _u =>
  if r2 = 0 then
    some (0)
  else
    (sw_ld T (b + 3) 7 p1).bind fun v6 =>
    (w53 b T v6).bind fun r8 =>
    (w44_26 b T p1 sw_N r8 0).bind fun x15 =>
    some (x15)
theorem A44 {G : sp_G} {z n : Nat} (hn : 228 ≤ n) {b : Nat} (hb : b ∈ sw_rm) {T : sw_T} {K : sw_K} {p1 : Int} {res : Int} {Q : sp_R → sp_M → Prop} (h : w44 b T p1 = some res) (kk : Q (.inl (some (.int (Int32.ofInt res)))) (sw_M z n sw_Ft T K)) : sq_go G 44 0 [some (.ref (z + b)), some (.int (Int32.ofInt p1)), none, none] [] (sw_M z n sw_Ft T K) Q := by
  unfold w44 at h
  refine go_l qd44_0 rfl ?_
  refine go_l qd44_1 rfl ?_
  obtain ⟨r2, e1, h⟩ := sw_bind h
  refine ga_kv (a := b) (as := [.int (Int32.ofInt p1)]) (rest := []) qd44_2 qk44_74 (sw_rb hn hb) rfl rfl rfl (Nat.le_of_ble_eq_true rfl) (Nat.le_of_ble_eq_true rfl) rfl (A25 hn hb e1 (sw_bkv ?_))
  obtain ⟨_u, e3, h⟩ := sw_bind h
  by_cases hb4 : r2 = 0
  · replace h := sw_ifY hb4 h
    refine ga_zneY (t := 10) qd44_5 e3 hb4 rfl ?_
    refine go_s qd44_8 rfl ?_
    rw [← sw_sj h] at kk
    exact ga_ri qd44_9 qr44 kk
  · replace h := sw_ifN hb4 h
    refine ga_zneN (t := 10) qd44_5 e3 hb4 rfl ?_
    refine go_l qd44_10 rfl ?_
    refine ga_gf (v := .ref (z + (b + 20))) qd44_11 qc44 qf3_54 (sw_rb hn hb) rfl rfl ?_
    refine go_l qd44_14 rfl ?_
    refine ga_gf (v := .ref (z + (b + 3))) qd44_15 qc44 qf3_22 (sw_rb hn hb) rfl rfl ?_
    refine go_l qd44_18 rfl ?_
    obtain ⟨v6, e5, h⟩ := sw_bind h
    refine ga_iald qd44_19 (sw_rk hn hb 3 (by decide)) e5 ?_
    obtain ⟨r8, e7, h⟩ := sw_bind h
    refine ga_kv (a := (b + 20)) (as := [.int (Int32.ofInt v6)]) (rest := []) qd44_20 qk44_123 (sw_rk hn hb 20 (by decide)) rfl rfl rfl (Nat.le_of_ble_eq_true rfl) (Nat.le_of_ble_eq_true rfl) rfl (A53 hn hb e7 (sw_bkv ?_))
    refine go_l (L' := [some (.ref (z + b)), some (.int (Int32.ofInt p1)), some (.int (Int32.ofInt r8)), none]) (st' := []) qd44_23 rfl ?_
    refine go_s qd44_24 rfl ?_
    refine go_l (L' := [some (.ref (z + b)), some (.int (Int32.ofInt p1)), some (.int (Int32.ofInt r8)), some (.int (Int32.ofInt 0))]) (st' := []) qd44_25 rfl ?_
    obtain ⟨x15, e16, h⟩ := sw_bind h
    refine sq_weak (L := [some (.ref (z + b)), some (.int (Int32.ofInt p1)), some (.int (Int32.ofInt r8)), some (.int (Int32.ofInt 0))]) ⟨rfl, rfl, rfl, rfl, trivial⟩ (B44_26 hn hb (res := x15) ?_ _ _ _ e16)
    refine go_l qd44_57 rfl ?_
    rw [← sw_sj h] at kk
    exact ga_ri qd44_58 qr44 kk
theorem qk42_74 : sw_ck 42 74 25 0 1 3 2 = true := by decide +kernel
theorem qr42 : sq_ret 42 = some .int := by decide +kernel
theorem qc42 : sq_c 42 = 3 := by decide +kernel
theorem qk42_78 : sw_ck 42 78 18 0 1 2 2 = true := by decide +kernel
theorem qk42_152 : sw_ck 42 152 44 0 1 3 4 = true := by decide +kernel
-- 42: SewingPiles$Room.seamstressNumber(II)I
def w42 (b : Nat) (T : sw_T) (p1 : Int) (p2 : Int) : Option (Int) :=
  (w25 b T p1).bind fun r2 =>
  (sw_r1 r2).bind fun _u =>
  if r2 = 0 then
    some ((-1))
  else
    (sw_r1 p2).bind fun _u =>
    if p2 = 0 then
      (sw_ld T (b + 2) 7 p1).bind fun v8 =>
      some (v8)
    else
    if p2 = 1 then
      (w18 b T p1).bind fun r11 =>
      some (r11)
    else
    if p2 = 2 then
      (sw_ld T (b + 3) 7 p1).bind fun v14 =>
      some (v14)
    else
    if p2 = 3 then
      (sw_ld T (b + 4) 7 p1).bind fun v17 =>
      some (v17)
    else
    if p2 = 4 then
      (sw_ld T (b + 5) 7 p1).bind fun v20 =>
      (sw_r1 v20).bind fun _u =>
      if v20 = 0 then
        some (0)
      else
        some (1)
    else
    if p2 = 5 then
      (sw_ld T (b + 6) 7 p1).bind fun v25 =>
      some (v25)
    else
    if p2 = 6 then
      (sw_ld T (b + 7) 7 p1).bind fun v28 =>
      some (v28)
    else
    if p2 = 7 then
      (sw_ld T (b + 8) 7 p1).bind fun v31 =>
      some (v31)
    else
    if p2 = 8 then
      (sw_ld T (b + 9) 7 p1).bind fun v34 =>
      some (v34)
    else
      (w44 b T p1).bind fun r36 =>
      some (r36)
theorem A42 {G : sp_G} {z n : Nat} (hn : 228 ≤ n) {b : Nat} (hb : b ∈ sw_rm) {T : sw_T} {K : sw_K} {p1 : Int} {p2 : Int} {res : Int} {Q : sp_R → sp_M → Prop} (h : w42 b T p1 p2 = some res) (kk : Q (.inl (some (.int (Int32.ofInt res)))) (sw_M z n sw_Ft T K)) : sq_go G 42 0 [some (.ref (z + b)), some (.int (Int32.ofInt p1)), some (.int (Int32.ofInt p2))] [] (sw_M z n sw_Ft T K) Q := by
  unfold w42 at h
  refine go_l qd42_0 rfl ?_
  refine go_l qd42_1 rfl ?_
  obtain ⟨r2, e1, h⟩ := sw_bind h
  refine ga_kv (a := b) (as := [.int (Int32.ofInt p1)]) (rest := []) qd42_2 qk42_74 (sw_rb hn hb) rfl rfl rfl (Nat.le_of_ble_eq_true rfl) (Nat.le_of_ble_eq_true rfl) rfl (A25 hn hb e1 (sw_bkv ?_))
  obtain ⟨_u, e3, h⟩ := sw_bind h
  by_cases hb4 : r2 = 0
  · replace h := sw_ifY hb4 h
    refine ga_zneY (t := 10) qd42_5 e3 hb4 rfl ?_
    refine go_s qd42_8 rfl ?_
    rw [← sw_sj h] at kk
    exact ga_ri qd42_9 qr42 kk
  · replace h := sw_ifN hb4 h
    refine ga_zneN (t := 10) qd42_5 e3 hb4 rfl ?_
    refine go_l qd42_10 rfl ?_
    obtain ⟨_u, e5, h⟩ := sw_bind h
    by_cases hb6 : p2 = 0
    · replace h := sw_ifY hb6 h
      refine ga_sw (t := 60) qd42_11 rfl hb6 rfl ?_
      refine go_l qd42_60 rfl ?_
      refine ga_gf (v := .ref (z + (b + 2))) qd42_61 qc42 qf3_19 (sw_rb hn hb) rfl rfl ?_
      refine go_l qd42_64 rfl ?_
      obtain ⟨v8, e7, h⟩ := sw_bind h
      refine ga_iald qd42_65 (sw_rk hn hb 2 (by decide)) e7 ?_
      rw [← sw_sj h] at kk
      exact ga_ri qd42_66 qr42 kk
    · replace h := sw_ifN hb6 h
      by_cases hb9 : p2 = 1
      · replace h := sw_ifY hb9 h
        refine ga_sw (t := 67) qd42_11 rfl hb9 rfl ?_
        refine go_l qd42_67 rfl ?_
        refine ga_gf (v := .ref (z + (b + 10))) qd42_68 qc42 qf3_47 (sw_rb hn hb) rfl rfl ?_
        refine go_l qd42_71 rfl ?_
        obtain ⟨r11, e10, h⟩ := sw_bind h
        refine ga_kv (a := (b + 10)) (as := [.int (Int32.ofInt p1)]) (rest := []) qd42_72 qk42_78 (sw_rk hn hb 10 (by decide)) rfl rfl rfl (Nat.le_of_ble_eq_true rfl) (Nat.le_of_ble_eq_true rfl) rfl (A18 hn hb e10 (sw_bkv ?_))
        rw [← sw_sj h] at kk
        exact ga_ri qd42_75 qr42 kk
      · replace h := sw_ifN hb9 h
        by_cases hb12 : p2 = 2
        · replace h := sw_ifY hb12 h
          refine ga_sw (t := 76) qd42_11 rfl hb12 rfl ?_
          refine go_l qd42_76 rfl ?_
          refine ga_gf (v := .ref (z + (b + 3))) qd42_77 qc42 qf3_22 (sw_rb hn hb) rfl rfl ?_
          refine go_l qd42_80 rfl ?_
          obtain ⟨v14, e13, h⟩ := sw_bind h
          refine ga_iald qd42_81 (sw_rk hn hb 3 (by decide)) e13 ?_
          rw [← sw_sj h] at kk
          exact ga_ri qd42_82 qr42 kk
        · replace h := sw_ifN hb12 h
          by_cases hb15 : p2 = 3
          · replace h := sw_ifY hb15 h
            refine ga_sw (t := 83) qd42_11 rfl hb15 rfl ?_
            refine go_l qd42_83 rfl ?_
            refine ga_gf (v := .ref (z + (b + 4))) qd42_84 qc42 qf3_25 (sw_rb hn hb) rfl rfl ?_
            refine go_l qd42_87 rfl ?_
            obtain ⟨v17, e16, h⟩ := sw_bind h
            refine ga_iald qd42_88 (sw_rk hn hb 4 (by decide)) e16 ?_
            rw [← sw_sj h] at kk
            exact ga_ri qd42_89 qr42 kk
          · replace h := sw_ifN hb15 h
            by_cases hb18 : p2 = 4
            · replace h := sw_ifY hb18 h
              refine ga_sw (t := 90) qd42_11 rfl hb18 rfl ?_
              refine go_l qd42_90 rfl ?_
              refine ga_gf (v := .ref (z + (b + 5))) qd42_91 qc42 qf3_28 (sw_rb hn hb) rfl rfl ?_
              refine go_l qd42_94 rfl ?_
              obtain ⟨v20, e19, h⟩ := sw_bind h
              refine ga_bald qd42_95 (sw_rk hn hb 5 (by decide)) e19 ?_
              obtain ⟨_u, e21, h⟩ := sw_bind h
              by_cases hb22 : v20 = 0
              · replace h := sw_ifY hb22 h
                refine ga_zeqY (t := 103) qd42_96 e21 hb22 rfl ?_
                refine go_s qd42_103 rfl ?_
                rw [← sw_sj h] at kk
                exact ga_ri qd42_104 qr42 kk
              · replace h := sw_ifN hb22 h
                refine ga_zeqN (t := 103) qd42_96 e21 hb22 rfl ?_
                refine go_s qd42_99 rfl ?_
                refine ga_jp (t := 104) qd42_100 rfl ?_
                rw [← sw_sj h] at kk
                exact ga_ri qd42_104 qr42 kk
            · replace h := sw_ifN hb18 h
              by_cases hb23 : p2 = 5
              · replace h := sw_ifY hb23 h
                refine ga_sw (t := 105) qd42_11 rfl hb23 rfl ?_
                refine go_l qd42_105 rfl ?_
                refine ga_gf (v := .ref (z + (b + 6))) qd42_106 qc42 qf3_32 (sw_rb hn hb) rfl rfl ?_
                refine go_l qd42_109 rfl ?_
                obtain ⟨v25, e24, h⟩ := sw_bind h
                refine ga_iald qd42_110 (sw_rk hn hb 6 (by decide)) e24 ?_
                rw [← sw_sj h] at kk
                exact ga_ri qd42_111 qr42 kk
              · replace h := sw_ifN hb23 h
                by_cases hb26 : p2 = 6
                · replace h := sw_ifY hb26 h
                  refine ga_sw (t := 112) qd42_11 rfl hb26 rfl ?_
                  refine go_l qd42_112 rfl ?_
                  refine ga_gf (v := .ref (z + (b + 7))) qd42_113 qc42 qf3_35 (sw_rb hn hb) rfl rfl ?_
                  refine go_l qd42_116 rfl ?_
                  obtain ⟨v28, e27, h⟩ := sw_bind h
                  refine ga_iald qd42_117 (sw_rk hn hb 7 (by decide)) e27 ?_
                  rw [← sw_sj h] at kk
                  exact ga_ri qd42_118 qr42 kk
                · replace h := sw_ifN hb26 h
                  by_cases hb29 : p2 = 7
                  · replace h := sw_ifY hb29 h
                    refine ga_sw (t := 119) qd42_11 rfl hb29 rfl ?_
                    refine go_l qd42_119 rfl ?_
                    refine ga_gf (v := .ref (z + (b + 8))) qd42_120 qc42 qf3_38 (sw_rb hn hb) rfl rfl ?_
                    refine go_l qd42_123 rfl ?_
                    obtain ⟨v31, e30, h⟩ := sw_bind h
                    refine ga_iald qd42_124 (sw_rk hn hb 8 (by decide)) e30 ?_
                    rw [← sw_sj h] at kk
                    exact ga_ri qd42_125 qr42 kk
                  · replace h := sw_ifN hb29 h
                    by_cases hb32 : p2 = 8
                    · replace h := sw_ifY hb32 h
                      refine ga_sw (t := 126) qd42_11 rfl hb32 rfl ?_
                      refine go_l qd42_126 rfl ?_
                      refine ga_gf (v := .ref (z + (b + 9))) qd42_127 qc42 qf3_41 (sw_rb hn hb) rfl rfl ?_
                      refine go_l qd42_130 rfl ?_
                      obtain ⟨v34, e33, h⟩ := sw_bind h
                      refine ga_iald qd42_131 (sw_rk hn hb 9 (by decide)) e33 ?_
                      rw [← sw_sj h] at kk
                      exact ga_ri qd42_132 qr42 kk
                    · replace h := sw_ifN hb32 h
                      refine ga_tsd (t := 133) qd42_11 e5 (by omega) rfl ?_
                      refine go_l qd42_133 rfl ?_
                      refine go_l qd42_134 rfl ?_
                      obtain ⟨r36, e35, h⟩ := sw_bind h
                      refine ga_kv (a := b) (as := [.int (Int32.ofInt p1)]) (rest := []) qd42_135 qk42_152 (sw_rb hn hb) rfl rfl rfl (Nat.le_of_ble_eq_true rfl) (Nat.le_of_ble_eq_true rfl) rfl (A44 hn hb e35 (sw_bkv ?_))
                      rw [← sw_sj h] at kk
                      exact ga_ri qd42_138 qr42 kk
theorem qc46 : sq_c 46 = 3 := by decide +kernel
theorem qr46 : sq_ret 46 = some .int := by decide +kernel
-- 46: SewingPiles$Room.fullHands()I
def w46_4 (b : Nat) (T : sw_T) : Nat → Int → Int → Option (Int)
  | 0, _, _ => none
  | m + 1, l1, l2 =>
    (sw_r2 l2 (T b 1)).bind fun _u =>
    if l2 < (T b 1) then
      (sw_r2 l2 7).bind fun _u =>
      if l2 < 7 then
        (sw_ld T (b + 3) 7 l2).bind fun v6 =>
        (sw_r2 v6 (-1)).bind fun _u =>
        if v6 = (-1) then
          w46_4 b T m l1 (l2 + 1)
        else
          w46_4 b T m (l1 + 1) (l2 + 1)
      else
        some (l1)
    else
      some (l1)
theorem B46_4 {G : sp_G} {z n : Nat} (hn : 228 ≤ n) {b : Nat} (hb : b ∈ sw_rm) {T : sw_T} {K : sw_K} {res : Int} {Q : sp_R → sp_M → Prop} (kk : sq_go G 46 37 [none, some (.int (Int32.ofInt res)), none] [] (sw_M z n sw_Ft T K) Q) : ∀ (m : Nat) (l1 : Int) (l2 : Int), w46_4 b T m l1 l2 = some res → sq_go G 46 4 [some (.ref (z + b)), some (.int (Int32.ofInt l1)), some (.int (Int32.ofInt l2))] [] (sw_M z n sw_Ft T K) Q := by
  intro m
  induction m with
  | zero => intro l1 l2 h; cases h
  | succ m ih =>
    intro l1 l2 h
    rw [w46_4] at h
    refine go_l qd46_4 rfl ?_
    refine go_l qd46_5 rfl ?_
    refine ga_gf (v := .int (Int32.ofInt (T b 1))) qd46_6 qc46 qf3_9 (sw_rb hn hb) rfl rfl ?_
    obtain ⟨_u, e1, h⟩ := sw_bind h
    by_cases hb2 : l2 < (T b 1)
    · replace h := sw_ifY hb2 h
      refine ga_cgeY (t := 37) qd46_9 e1 hb2 rfl ?_
      refine go_l qd46_12 rfl ?_
      refine ga_k8 qd46_13 rfl ?_
      obtain ⟨_u, e3, h⟩ := sw_bind h
      by_cases hb4 : l2 < 7
      · replace h := sw_ifY hb4 h
        refine ga_cgeY (t := 37) qd46_15 e3 hb4 rfl ?_
        refine go_l qd46_18 rfl ?_
        refine ga_gf (v := .ref (z + (b + 3))) qd46_19 qc46 qf3_22 (sw_rb hn hb) rfl rfl ?_
        refine go_l qd46_22 rfl ?_
        obtain ⟨v6, e5, h⟩ := sw_bind h
        refine ga_iald qd46_23 (sw_rk hn hb 3 (by decide)) e5 ?_
        refine go_s qd46_24 rfl ?_
        obtain ⟨_u, e7, h⟩ := sw_bind h
        by_cases hb8 : v6 = (-1)
        · replace h := sw_ifY hb8 h
          refine ga_ceqY (t := 31) qd46_25 e7 hb8 rfl ?_
          refine ga_ii (L' := [some (.ref (z + b)), some (.int (Int32.ofInt l1)), some (.int (Int32.ofInt (l2 + 1)))]) qd46_31 rfl rfl ?_
          refine ga_jp (t := 4) qd46_34 rfl ?_
          exact sq_weak (L := [some (.ref (z + b)), some (.int (Int32.ofInt l1)), some (.int (Int32.ofInt (l2 + 1)))]) ⟨rfl, rfl, rfl, trivial⟩ (ih _ _ h)
        · replace h := sw_ifN hb8 h
          refine ga_ceqN (t := 31) qd46_25 e7 hb8 rfl ?_
          refine ga_ii (L' := [some (.ref (z + b)), some (.int (Int32.ofInt (l1 + 1))), some (.int (Int32.ofInt l2))]) qd46_28 rfl rfl ?_
          refine ga_ii (L' := [some (.ref (z + b)), some (.int (Int32.ofInt (l1 + 1))), some (.int (Int32.ofInt (l2 + 1)))]) qd46_31 rfl rfl ?_
          refine ga_jp (t := 4) qd46_34 rfl ?_
          exact sq_weak (L := [some (.ref (z + b)), some (.int (Int32.ofInt (l1 + 1))), some (.int (Int32.ofInt (l2 + 1)))]) ⟨rfl, rfl, rfl, trivial⟩ (ih _ _ h)
      · replace h := sw_ifN hb4 h
        refine ga_cgeN (t := 37) qd46_15 e3 hb4 rfl ?_
        rw [← sw_sj h] at kk
        exact sq_weak (L := [none, some (.int (Int32.ofInt l1)), none]) ⟨rfl, trivial⟩ kk
    · replace h := sw_ifN hb2 h
      refine ga_cgeN (t := 37) qd46_9 e1 hb2 rfl ?_
      rw [← sw_sj h] at kk
      exact sq_weak (L := [none, some (.int (Int32.ofInt l1)), none]) ⟨rfl, trivial⟩ kk
def w46 (b : Nat) (T : sw_T) : Option (Int) :=
  (w46_4 b T sw_N 0 0).bind fun x9 =>
  some (x9)
theorem A46 {G : sp_G} {z n : Nat} (hn : 228 ≤ n) {b : Nat} (hb : b ∈ sw_rm) {T : sw_T} {K : sw_K} {res : Int} {Q : sp_R → sp_M → Prop} (h : w46 b T = some res) (kk : Q (.inl (some (.int (Int32.ofInt res)))) (sw_M z n sw_Ft T K)) : sq_go G 46 0 [some (.ref (z + b)), none, none] [] (sw_M z n sw_Ft T K) Q := by
  unfold w46 at h
  refine go_s qd46_0 rfl ?_
  refine go_l (L' := [some (.ref (z + b)), some (.int (Int32.ofInt 0)), none]) (st' := []) qd46_1 rfl ?_
  refine go_s qd46_2 rfl ?_
  refine go_l (L' := [some (.ref (z + b)), some (.int (Int32.ofInt 0)), some (.int (Int32.ofInt 0))]) (st' := []) qd46_3 rfl ?_
  obtain ⟨x9, e10, h⟩ := sw_bind h
  refine sq_weak (L := [some (.ref (z + b)), some (.int (Int32.ofInt 0)), some (.int (Int32.ofInt 0))]) ⟨rfl, rfl, rfl, trivial⟩ (B46_4 hn hb (res := x9) ?_ _ _ _ e10)
  refine go_l qd46_37 rfl ?_
  rw [← sw_sj h] at kk
  exact ga_ri qd46_38 qr46 kk
theorem qc57 : sq_c 57 = 4 := by decide +kernel
theorem qr57 : sq_ret 57 = some .int := by decide +kernel
-- 57: SewingPiles$Shirts.workLeft()I
def w57_4 (b : Nat) (T : sw_T) : Nat → Int → Int → Option (Int)
  | 0, _, _ => none
  | m + 1, l1, l2 =>
    (sw_r2 l2 (T (b + 20) 0)).bind fun _u =>
    if l2 < (T (b + 20) 0) then
      (sw_r2 l2 120).bind fun _u =>
      if l2 < 120 then
        (sw_ld T (b + 21) 120 l2).bind fun v6 =>
        w57_4 b T m (l1 + v6) (l2 + 1)
      else
        some (l1)
    else
      some (l1)
theorem B57_4 {G : sp_G} {z n : Nat} (hn : 228 ≤ n) {b : Nat} (hb : b ∈ sw_rm) {T : sw_T} {K : sw_K} {res : Int} {Q : sp_R → sp_M → Prop} (kk : sq_go G 57 33 [none, some (.int (Int32.ofInt res)), none] [] (sw_M z n sw_Ft T K) Q) : ∀ (m : Nat) (l1 : Int) (l2 : Int), w57_4 b T m l1 l2 = some res → sq_go G 57 4 [some (.ref (z + (b + 20))), some (.int (Int32.ofInt l1)), some (.int (Int32.ofInt l2))] [] (sw_M z n sw_Ft T K) Q := by
  intro m
  induction m with
  | zero => intro l1 l2 h; cases h
  | succ m ih =>
    intro l1 l2 h
    rw [w57_4] at h
    refine go_l qd57_4 rfl ?_
    refine go_l qd57_5 rfl ?_
    refine ga_gf (v := .int (Int32.ofInt (T (b + 20) 0))) qd57_6 qc57 qf4_21 (sw_rk hn hb 20 (by decide)) rfl rfl ?_
    obtain ⟨_u, e1, h⟩ := sw_bind h
    by_cases hb2 : l2 < (T (b + 20) 0)
    · replace h := sw_ifY hb2 h
      refine ga_cgeY (t := 33) qd57_9 e1 hb2 rfl ?_
      refine go_l qd57_12 rfl ?_
      refine ga_k8 qd57_13 rfl ?_
      obtain ⟨_u, e3, h⟩ := sw_bind h
      by_cases hb4 : l2 < 120
      · replace h := sw_ifY hb4 h
        refine ga_cgeY (t := 33) qd57_15 e3 hb4 rfl ?_
        refine go_l qd57_18 rfl ?_
        refine go_l qd57_19 rfl ?_
        refine ga_gf (v := .ref (z + (b + 21))) qd57_20 qc57 qf4_9 (sw_rk hn hb 20 (by decide)) rfl rfl ?_
        refine go_l qd57_23 rfl ?_
        obtain ⟨v6, e5, h⟩ := sw_bind h
        refine ga_iald qd57_24 (sw_rk hn hb 21 (by decide)) e5 ?_
        refine ga_iadd qd57_25 ?_
        refine go_l (L' := [some (.ref (z + (b + 20))), some (.int (Int32.ofInt (l1 + v6))), some (.int (Int32.ofInt l2))]) (st' := []) qd57_26 rfl ?_
        refine ga_ii (L' := [some (.ref (z + (b + 20))), some (.int (Int32.ofInt (l1 + v6))), some (.int (Int32.ofInt (l2 + 1)))]) qd57_27 rfl rfl ?_
        refine ga_jp (t := 4) qd57_30 rfl ?_
        exact sq_weak (L := [some (.ref (z + (b + 20))), some (.int (Int32.ofInt (l1 + v6))), some (.int (Int32.ofInt (l2 + 1)))]) ⟨rfl, rfl, rfl, trivial⟩ (ih _ _ h)
      · replace h := sw_ifN hb4 h
        refine ga_cgeN (t := 33) qd57_15 e3 hb4 rfl ?_
        rw [← sw_sj h] at kk
        exact sq_weak (L := [none, some (.int (Int32.ofInt l1)), none]) ⟨rfl, trivial⟩ kk
    · replace h := sw_ifN hb2 h
      refine ga_cgeN (t := 33) qd57_9 e1 hb2 rfl ?_
      rw [← sw_sj h] at kk
      exact sq_weak (L := [none, some (.int (Int32.ofInt l1)), none]) ⟨rfl, trivial⟩ kk
def w57 (b : Nat) (T : sw_T) : Option (Int) :=
  (w57_4 b T sw_N 0 0).bind fun x7 =>
  some (x7)
theorem A57 {G : sp_G} {z n : Nat} (hn : 228 ≤ n) {b : Nat} (hb : b ∈ sw_rm) {T : sw_T} {K : sw_K} {res : Int} {Q : sp_R → sp_M → Prop} (h : w57 b T = some res) (kk : Q (.inl (some (.int (Int32.ofInt res)))) (sw_M z n sw_Ft T K)) : sq_go G 57 0 [some (.ref (z + (b + 20))), none, none] [] (sw_M z n sw_Ft T K) Q := by
  unfold w57 at h
  refine go_s qd57_0 rfl ?_
  refine go_l (L' := [some (.ref (z + (b + 20))), some (.int (Int32.ofInt 0)), none]) (st' := []) qd57_1 rfl ?_
  refine go_s qd57_2 rfl ?_
  refine go_l (L' := [some (.ref (z + (b + 20))), some (.int (Int32.ofInt 0)), some (.int (Int32.ofInt 0))]) (st' := []) qd57_3 rfl ?_
  obtain ⟨x7, e8, h⟩ := sw_bind h
  refine sq_weak (L := [some (.ref (z + (b + 20))), some (.int (Int32.ofInt 0)), some (.int (Int32.ofInt 0))]) ⟨rfl, rfl, rfl, trivial⟩ (B57_4 hn hb (res := x7) ?_ _ _ _ e8)
  refine go_l qd57_33 rfl ?_
  rw [← sw_sj h] at kk
  exact ga_ri qd57_34 qr57 kk
theorem qc43 : sq_c 43 = 3 := by decide +kernel
theorem qr43 : sq_ret 43 = some .int := by decide +kernel
theorem qk43_145 : sw_ck 43 145 45 0 0 3 1 = true := by decide +kernel
theorem qf3_155 : (sp_fd sp_flT 3 155).or (sp_fd sp_fnT 3 155) = some (2, 0) := by decide +kernel
theorem qk43_158 : sw_ck 43 158 48 0 1 3 4 = true := by decide +kernel
theorem qk43_162 : sw_ck 43 162 46 0 0 3 3 = true := by decide +kernel
theorem qk43_149 : sw_ck 43 149 47 0 0 3 3 = true := by decide +kernel
theorem qk43_165 : sw_ck 43 165 57 0 0 4 3 = true := by decide +kernel
-- 43: SewingPiles$Room.countedNumber(I)I
def w43 (b : Nat) (T : sw_T) (p1 : Int) : Option (Int) :=
  (sw_r1 p1).bind fun _u =>
  if p1 = 0 then
    some ((T b 0))
  else
  if p1 = 1 then
    some ((T b 1))
  else
  if p1 = 2 then
    some ((T (b + 20) 0))
  else
  if p1 = 3 then
    (w45 b T).bind fun r7 =>
    some (r7)
  else
  if p1 = 4 then
    (w48 b (b + 11) T).bind fun r10 =>
    some (r10)
  else
  if p1 = 5 then
    (w46 b T).bind fun r13 =>
    some (r13)
  else
  if p1 = 6 then
    (w48 b (b + 7) T).bind fun r16 =>
    some (r16)
  else
  if p1 = 7 then
    (w48 b (b + 9) T).bind fun r19 =>
    some (r19)
  else
  if p1 = 8 then
    some ((T b 3))
  else
  if p1 = 9 then
    (w47 b T).bind fun r23 =>
    some (r23)
  else
    (w57 b T).bind fun r25 =>
    some (r25)
theorem A43 {G : sp_G} {z n : Nat} (hn : 228 ≤ n) {b : Nat} (hb : b ∈ sw_rm) {T : sw_T} {K : sw_K} {p1 : Int} {res : Int} {Q : sp_R → sp_M → Prop} (h : w43 b T p1 = some res) (kk : Q (.inl (some (.int (Int32.ofInt res)))) (sw_M z n sw_Ft T K)) : sq_go G 43 0 [some (.ref (z + b)), some (.int (Int32.ofInt p1))] [] (sw_M z n sw_Ft T K) Q := by
  unfold w43 at h
  refine go_l qd43_0 rfl ?_
  obtain ⟨_u, e1, h⟩ := sw_bind h
  by_cases hb2 : p1 = 0
  · replace h := sw_ifY hb2 h
    refine ga_sw (t := 56) qd43_1 rfl hb2 rfl ?_
    refine go_l qd43_56 rfl ?_
    refine ga_gf (v := .int (Int32.ofInt (T b 0))) qd43_57 qc43 qf3_58 (sw_rb hn hb) rfl rfl ?_
    rw [← sw_sj h] at kk
    exact ga_ri qd43_60 qr43 kk
  · replace h := sw_ifN hb2 h
    by_cases hb3 : p1 = 1
    · replace h := sw_ifY hb3 h
      refine ga_sw (t := 61) qd43_1 rfl hb3 rfl ?_
      refine go_l qd43_61 rfl ?_
      refine ga_gf (v := .int (Int32.ofInt (T b 1))) qd43_62 qc43 qf3_9 (sw_rb hn hb) rfl rfl ?_
      rw [← sw_sj h] at kk
      exact ga_ri qd43_65 qr43 kk
    · replace h := sw_ifN hb3 h
      by_cases hb4 : p1 = 2
      · replace h := sw_ifY hb4 h
        refine ga_sw (t := 66) qd43_1 rfl hb4 rfl ?_
        refine go_l qd43_66 rfl ?_
        refine ga_gf (v := .ref (z + (b + 20))) qd43_67 qc43 qf3_54 (sw_rb hn hb) rfl rfl ?_
        refine ga_gf (v := .int (Int32.ofInt (T (b + 20) 0))) qd43_70 qc43 qf3_82 (sw_rk hn hb 20 (by decide)) rfl rfl ?_
        rw [← sw_sj h] at kk
        exact ga_ri qd43_73 qr43 kk
      · replace h := sw_ifN hb4 h
        by_cases hb5 : p1 = 3
        · replace h := sw_ifY hb5 h
          refine ga_sw (t := 74) qd43_1 rfl hb5 rfl ?_
          refine go_l qd43_74 rfl ?_
          obtain ⟨r7, e6, h⟩ := sw_bind h
          refine ga_kv (a := b) (as := []) (rest := []) qd43_75 qk43_145 (sw_rb hn hb) rfl rfl rfl (Nat.le_of_ble_eq_true rfl) (Nat.le_of_ble_eq_true rfl) rfl (A45 hn hb e6 (sw_bkv ?_))
          rw [← sw_sj h] at kk
          exact ga_ri qd43_78 qr43 kk
        · replace h := sw_ifN hb5 h
          by_cases hb8 : p1 = 4
          · replace h := sw_ifY hb8 h
            refine ga_sw (t := 79) qd43_1 rfl hb8 rfl ?_
            refine go_l qd43_79 rfl ?_
            refine go_l qd43_80 rfl ?_
            refine ga_gf (v := .ref (z + (b + 10))) qd43_81 qc43 qf3_47 (sw_rb hn hb) rfl rfl ?_
            refine ga_gf (v := .ref (z + (b + 11))) qd43_84 qc43 qf3_155 (sw_rk hn hb 10 (by decide)) rfl rfl ?_
            obtain ⟨r10, e9, h⟩ := sw_bind h
            refine ga_kv (a := b) (as := [.ref (z + (b + 11))]) (rest := []) qd43_87 qk43_158 (sw_rb hn hb) rfl rfl rfl (Nat.le_of_ble_eq_true rfl) (Nat.le_of_ble_eq_true rfl) rfl (A48 hn hb (sw_rk hn hb 11 (by decide)) e9 (sw_bkv ?_))
            rw [← sw_sj h] at kk
            exact ga_ri qd43_90 qr43 kk
          · replace h := sw_ifN hb8 h
            by_cases hb11 : p1 = 5
            · replace h := sw_ifY hb11 h
              refine ga_sw (t := 91) qd43_1 rfl hb11 rfl ?_
              refine go_l qd43_91 rfl ?_
              obtain ⟨r13, e12, h⟩ := sw_bind h
              refine ga_kv (a := b) (as := []) (rest := []) qd43_92 qk43_162 (sw_rb hn hb) rfl rfl rfl (Nat.le_of_ble_eq_true rfl) (Nat.le_of_ble_eq_true rfl) rfl (A46 hn hb e12 (sw_bkv ?_))
              rw [← sw_sj h] at kk
              exact ga_ri qd43_95 qr43 kk
            · replace h := sw_ifN hb11 h
              by_cases hb14 : p1 = 6
              · replace h := sw_ifY hb14 h
                refine ga_sw (t := 96) qd43_1 rfl hb14 rfl ?_
                refine go_l qd43_96 rfl ?_
                refine go_l qd43_97 rfl ?_
                refine ga_gf (v := .ref (z + (b + 7))) qd43_98 qc43 qf3_35 (sw_rb hn hb) rfl rfl ?_
                obtain ⟨r16, e15, h⟩ := sw_bind h
                refine ga_kv (a := b) (as := [.ref (z + (b + 7))]) (rest := []) qd43_101 qk43_158 (sw_rb hn hb) rfl rfl rfl (Nat.le_of_ble_eq_true rfl) (Nat.le_of_ble_eq_true rfl) rfl (A48 hn hb (sw_rk hn hb 7 (by decide)) e15 (sw_bkv ?_))
                rw [← sw_sj h] at kk
                exact ga_ri qd43_104 qr43 kk
              · replace h := sw_ifN hb14 h
                by_cases hb17 : p1 = 7
                · replace h := sw_ifY hb17 h
                  refine ga_sw (t := 105) qd43_1 rfl hb17 rfl ?_
                  refine go_l qd43_105 rfl ?_
                  refine go_l qd43_106 rfl ?_
                  refine ga_gf (v := .ref (z + (b + 9))) qd43_107 qc43 qf3_41 (sw_rb hn hb) rfl rfl ?_
                  obtain ⟨r19, e18, h⟩ := sw_bind h
                  refine ga_kv (a := b) (as := [.ref (z + (b + 9))]) (rest := []) qd43_110 qk43_158 (sw_rb hn hb) rfl rfl rfl (Nat.le_of_ble_eq_true rfl) (Nat.le_of_ble_eq_true rfl) rfl (A48 hn hb (sw_rk hn hb 9 (by decide)) e18 (sw_bkv ?_))
                  rw [← sw_sj h] at kk
                  exact ga_ri qd43_113 qr43 kk
                · replace h := sw_ifN hb17 h
                  by_cases hb20 : p1 = 8
                  · replace h := sw_ifY hb20 h
                    refine ga_sw (t := 114) qd43_1 rfl hb20 rfl ?_
                    refine go_l qd43_114 rfl ?_
                    refine ga_gf (v := .int (Int32.ofInt (T b 3))) qd43_115 qc43 qf3_64 (sw_rb hn hb) rfl rfl ?_
                    rw [← sw_sj h] at kk
                    exact ga_ri qd43_118 qr43 kk
                  · replace h := sw_ifN hb20 h
                    by_cases hb21 : p1 = 9
                    · replace h := sw_ifY hb21 h
                      refine ga_sw (t := 119) qd43_1 rfl hb21 rfl ?_
                      refine go_l qd43_119 rfl ?_
                      obtain ⟨r23, e22, h⟩ := sw_bind h
                      refine ga_kv (a := b) (as := []) (rest := []) qd43_120 qk43_149 (sw_rb hn hb) rfl rfl rfl (Nat.le_of_ble_eq_true rfl) (Nat.le_of_ble_eq_true rfl) rfl (A47 hn hb e22 (sw_bkv ?_))
                      rw [← sw_sj h] at kk
                      exact ga_ri qd43_123 qr43 kk
                    · replace h := sw_ifN hb21 h
                      refine ga_tsd (t := 124) qd43_1 e1 (by omega) rfl ?_
                      refine go_l qd43_124 rfl ?_
                      refine ga_gf (v := .ref (z + (b + 20))) qd43_125 qc43 qf3_54 (sw_rb hn hb) rfl rfl ?_
                      obtain ⟨r25, e24, h⟩ := sw_bind h
                      refine ga_kv (a := (b + 20)) (as := []) (rest := []) qd43_128 qk43_165 (sw_rk hn hb 20 (by decide)) rfl rfl rfl (Nat.le_of_ble_eq_true rfl) (Nat.le_of_ble_eq_true rfl) rfl (A57 hn hb e24 (sw_bkv ?_))
                      rw [← sw_sj h] at kk
                      exact ga_ri qd43_131 qr43 kk
theorem qk56_25 : sw_ck 56 25 51 0 1 4 2 = true := by decide +kernel
theorem qr56 : sq_ret 56 = some .int := by decide +kernel
theorem qc56 : sq_c 56 = 4 := by decide +kernel
-- 56: SewingPiles$Shirts.number(II)I
def w56 (b : Nat) (T : sw_T) (p1 : Int) (p2 : Int) : Option (Int) :=
  (w51 b T p1).bind fun r2 =>
  (sw_r1 r2).bind fun _u =>
  if r2 = 0 then
    some ((-1))
  else
    (sw_r1 p2).bind fun _u =>
    if p2 = 0 then
      (sw_ld T (b + 21) 120 p1).bind fun v8 =>
      some (v8)
    else
    if p2 = 1 then
      (sw_ld T (b + 22) 120 p1).bind fun v11 =>
      some (v11)
    else
      (sw_ld T (b + 23) 120 p1).bind fun v13 =>
      some (v13)
theorem A56 {G : sp_G} {z n : Nat} (hn : 228 ≤ n) {b : Nat} (hb : b ∈ sw_rm) {T : sw_T} {K : sw_K} {p1 : Int} {p2 : Int} {res : Int} {Q : sp_R → sp_M → Prop} (h : w56 b T p1 p2 = some res) (kk : Q (.inl (some (.int (Int32.ofInt res)))) (sw_M z n sw_Ft T K)) : sq_go G 56 0 [some (.ref (z + (b + 20))), some (.int (Int32.ofInt p1)), some (.int (Int32.ofInt p2))] [] (sw_M z n sw_Ft T K) Q := by
  unfold w56 at h
  refine go_l qd56_0 rfl ?_
  refine go_l qd56_1 rfl ?_
  obtain ⟨r2, e1, h⟩ := sw_bind h
  refine ga_kv (a := (b + 20)) (as := [.int (Int32.ofInt p1)]) (rest := []) qd56_2 qk56_25 (sw_rk hn hb 20 (by decide)) rfl rfl rfl (Nat.le_of_ble_eq_true rfl) (Nat.le_of_ble_eq_true rfl) rfl (A51 hn hb e1 (sw_bkv ?_))
  obtain ⟨_u, e3, h⟩ := sw_bind h
  by_cases hb4 : r2 = 0
  · replace h := sw_ifY hb4 h
    refine ga_zneY (t := 10) qd56_5 e3 hb4 rfl ?_
    refine go_s qd56_8 rfl ?_
    rw [← sw_sj h] at kk
    exact ga_ri qd56_9 qr56 kk
  · replace h := sw_ifN hb4 h
    refine ga_zneN (t := 10) qd56_5 e3 hb4 rfl ?_
    refine go_l qd56_10 rfl ?_
    obtain ⟨_u, e5, h⟩ := sw_bind h
    by_cases hb6 : p2 = 0
    · replace h := sw_ifY hb6 h
      refine ga_sw (t := 36) qd56_11 rfl hb6 rfl ?_
      refine go_l qd56_36 rfl ?_
      refine ga_gf (v := .ref (z + (b + 21))) qd56_37 qc56 qf4_9 (sw_rk hn hb 20 (by decide)) rfl rfl ?_
      refine go_l qd56_40 rfl ?_
      obtain ⟨v8, e7, h⟩ := sw_bind h
      refine ga_iald qd56_41 (sw_rk hn hb 21 (by decide)) e7 ?_
      rw [← sw_sj h] at kk
      exact ga_ri qd56_42 qr56 kk
    · replace h := sw_ifN hb6 h
      by_cases hb9 : p2 = 1
      · replace h := sw_ifY hb9 h
        refine ga_sw (t := 43) qd56_11 rfl hb9 rfl ?_
        refine go_l qd56_43 rfl ?_
        refine ga_gf (v := .ref (z + (b + 22))) qd56_44 qc56 qf4_15 (sw_rk hn hb 20 (by decide)) rfl rfl ?_
        refine go_l qd56_47 rfl ?_
        obtain ⟨v11, e10, h⟩ := sw_bind h
        refine ga_iald qd56_48 (sw_rk hn hb 22 (by decide)) e10 ?_
        rw [← sw_sj h] at kk
        exact ga_ri qd56_49 qr56 kk
      · replace h := sw_ifN hb9 h
        refine ga_lsd (t := 50) qd56_11 e5 (by decide) (by intro p hp; simp only [List.mem_cons, List.not_mem_nil, or_false] at hp; rcases hp with rfl | rfl <;> (dsimp only; omega)) rfl ?_
        refine go_l qd56_50 rfl ?_
        refine ga_gf (v := .ref (z + (b + 23))) qd56_51 qc56 qf4_18 (sw_rk hn hb 20 (by decide)) rfl rfl ?_
        refine go_l qd56_54 rfl ?_
        obtain ⟨v13, e12, h⟩ := sw_bind h
        refine ga_iald qd56_55 (sw_rk hn hb 23 (by decide)) e12 ?_
        rw [← sw_sj h] at kk
        exact ga_ri qd56_56 qr56 kk
theorem qt91_11 : sw_tq 91 11 0 = true := by decide +kernel
theorem qr91 : sq_ret 91 = none := by decide +kernel
-- 91: SewingPiles.checkSpeed(I)V
def w91 (T : sw_T) (p0 : Int) : Option ((Unit) ⊕ Nat) :=
  (sw_r2 p0 1).bind fun _u =>
  if p0 < 1 then
    some (.inr 0)
  else
    (sw_r2 p0 9).bind fun _u =>
    if 9 < p0 then
      some (.inr 0)
    else
      some (.inl (()))
theorem A91 {G : sp_G} {z n : Nat} (hn : 228 ≤ n) {T : sw_T} {K : sw_K} {p0 : Int} {res : (Unit) ⊕ Nat} {Q : sp_R → sp_M → Prop} (h : w91 T p0 = some res) (kk : ∀ r, res = .inl r → Q (.inl none) (sw_M z n sw_Ft T K)) (kx : ∀ E, res = .inr E → Q (.inr (sw_en E)) (sw_M z n sw_Ft T (sw_th K))) : sq_go G 91 0 [some (.int (Int32.ofInt p0))] [] (sw_M z n sw_Ft T K) Q := by
  unfold w91 at h
  refine go_l qd91_0 rfl ?_
  refine go_s qd91_1 rfl ?_
  obtain ⟨_u, e1, h⟩ := sw_bind h
  by_cases hb2 : p0 < 1
  · replace h := sw_ifY hb2 h
    refine ga_cltY (t := 11) qd91_2 e1 hb2 rfl ?_
    exact ga_th qt91_11 (Nat.le_of_ble_eq_true rfl) (kx _ (sw_sj h).symm)
  · replace h := sw_ifN hb2 h
    refine ga_cltN (t := 11) qd91_2 e1 hb2 rfl ?_
    refine go_l qd91_5 rfl ?_
    refine ga_k8 qd91_6 rfl ?_
    obtain ⟨_u, e3, h⟩ := sw_bind h
    by_cases hb4 : 9 < p0
    · replace h := sw_ifY hb4 h
      refine ga_cleY (t := 22) qd91_8 e3 hb4 rfl ?_
      exact ga_th qt91_11 (Nat.le_of_ble_eq_true rfl) (kx _ (sw_sj h).symm)
    · replace h := sw_ifN hb4 h
      refine ga_cleN (t := 22) qd91_8 e3 hb4 rfl ?_
      exact ga_rv qd91_22 qr91 (kk _ (sw_sj h).symm)
theorem qk59_36 : sw_ck 59 36 91 1 1 5 1 = true := by decide +kernel
theorem qf5_10 : (sp_fd sp_flT 5 10).or (sp_fd sp_fnT 5 10) = some (5, 0) := by decide +kernel
theorem qc59 : sq_c 59 = 5 := by decide +kernel
theorem qf5_40 : (sp_fd sp_flT 5 40).or (sp_fd sp_fnT 5 40) = some (3, 1) := by decide +kernel
theorem qf5_25 : (sp_fd sp_flT 5 25).or (sp_fd sp_fnT 5 25) = some (5, 3) := by decide +kernel
theorem qk59_51 : sw_ck 59 51 1 0 1 0 3 = true := by decide +kernel
theorem qk59_55 : sw_ck 59 55 26 0 1 3 2 = true := by decide +kernel
theorem qr59 : sq_ret 59 = some .int := by decide +kernel
theorem qt59_16 : sw_tq 59 16 1 = true := by decide +kernel
theorem qn59 : sw_nh 59 = true := by decide +kernel
-- 59: SewingPiles.hire(I)I
def w59 (T : sw_T) (p1 : Int) : Option ((Int × sw_T) ⊕ Nat) :=
  (w91 T p1).bind fun r2 =>
  sw_el r2 (fun r3 =>
    (sw_r2 (T 1 1) 6).bind fun _u =>
    if (T 1 1) < 6 then
      (w1 1 T).bind fun r10 =>
      (w26 1 r10 p1).bind fun r12 =>
      some (.inl ((r12.1, r12.2)))
    else
      some (.inr 1)
  ) (fun E4 =>
  some (.inr E4))
theorem A59 {G : sp_G} {z n : Nat} (hn : 228 ≤ n) {T : sw_T} {K : sw_K} {p1 : Int} {res : (Int × sw_T) ⊕ Nat} {Q : sp_R → sp_M → Prop} (h : w59 T p1 = some res) (kk : ∀ r, res = .inl r → Q (.inl (some (.int (Int32.ofInt r.1)))) (sw_M z n sw_Ft r.2 K)) (kx : ∀ E, res = .inr E → Q (.inr (sw_en E)) (sw_M z n sw_Ft T (sw_th K))) : sq_go G 59 0 [some (.ref (z + 0)), some (.int (Int32.ofInt p1))] [] (sw_M z n sw_Ft T K) Q := by
  unfold w59 at h
  refine go_l qd59_0 rfl ?_
  obtain ⟨r2, e1, h⟩ := sw_bind h
  refine ga_kS (as := [.int (Int32.ofInt p1)]) (rest := []) qd59_1 qk59_36 rfl rfl (Nat.le_of_ble_eq_true rfl) (Nat.le_of_ble_eq_true rfl) rfl (A91 hn e1 (fun r3 g5 => ?_) (fun E4 g6 => ?_))
  · refine sw_bk0 ?_
    replace h := sw_elL g5 h
    refine go_l qd59_4 rfl ?_
    refine ga_gf (v := .ref (z + 1)) qd59_5 qc59 qf5_10 (sw_sl hn (by decide)) rfl rfl ?_
    refine ga_gf (v := .int (Int32.ofInt (T 1 1))) qd59_8 qc59 qf5_40 (sw_sl hn (by decide)) rfl rfl ?_
    refine ga_k8 qd59_11 rfl ?_
    obtain ⟨_u, e7, h⟩ := sw_bind h
    by_cases hb8 : (T 1 1) < 6
    · replace h := sw_ifY hb8 h
      refine ga_cltY (t := 26) qd59_13 e7 hb8 rfl ?_
      refine go_l qd59_26 rfl ?_
      refine ga_gf (v := .ref (z + 73)) qd59_27 qc59 qf5_25 (sw_sl hn (by decide)) rfl rfl ?_
      refine go_l qd59_30 rfl ?_
      refine ga_gf (v := .ref (z + 1)) qd59_31 qc59 qf5_10 (sw_sl hn (by decide)) rfl rfl ?_
      obtain ⟨r10, e9, h⟩ := sw_bind h
      refine ga_kv (a := 73) (as := [.ref (z + 1)]) (rest := []) qd59_34 qk59_51 (sw_sl hn (by decide)) rfl rfl rfl (Nat.le_of_ble_eq_true rfl) (Nat.le_of_ble_eq_true rfl) rfl (A1 hn (by decide) e9 (sw_bk0 ?_))
      refine go_l qd59_37 rfl ?_
      refine ga_gf (v := .ref (z + 1)) qd59_38 qc59 qf5_10 (sw_sl hn (by decide)) rfl rfl ?_
      refine go_l qd59_41 rfl ?_
      obtain ⟨r12, e11, h⟩ := sw_bind h
      refine ga_kv (a := 1) (as := [.int (Int32.ofInt p1)]) (rest := []) qd59_42 qk59_55 (sw_sl hn (by decide)) rfl rfl rfl (Nat.le_of_ble_eq_true rfl) (Nat.le_of_ble_eq_true rfl) rfl (A26 hn (by decide) e11 (sw_bkv ?_))
      exact ga_ri qd59_45 qr59 (kk _ (sw_sj h).symm)
    · replace h := sw_ifN hb8 h
      refine ga_cltN (t := 26) qd59_13 e7 hb8 rfl ?_
      exact ga_th qt59_16 (Nat.le_of_ble_eq_true rfl) (kx _ (sw_sj h).symm)
  · replace h := sw_elR g6 h
    exact sw_thn qn59 (kx _ (sw_sj h).symm)
theorem qc90 : sq_c 90 = 5 := by decide +kernel
theorem qk90_293 : sw_ck 90 293 25 0 1 3 2 = true := by decide +kernel
theorem qt90_11 : sw_tq 90 11 2 = true := by decide +kernel
theorem qr90 : sq_ret 90 = none := by decide +kernel
-- 90: SewingPiles.checkSeamstress(I)V
def w90 (T : sw_T) (p1 : Int) : Option ((Unit) ⊕ Nat) :=
  (w25 1 T p1).bind fun r2 =>
  (sw_r1 r2).bind fun _u =>
  if r2 = 0 then
    some (.inr 2)
  else
    some (.inl (()))
theorem A90 {G : sp_G} {z n : Nat} (hn : 228 ≤ n) {T : sw_T} {K : sw_K} {p1 : Int} {res : (Unit) ⊕ Nat} {Q : sp_R → sp_M → Prop} (h : w90 T p1 = some res) (kk : ∀ r, res = .inl r → Q (.inl none) (sw_M z n sw_Ft T K)) (kx : ∀ E, res = .inr E → Q (.inr (sw_en E)) (sw_M z n sw_Ft T (sw_th K))) : sq_go G 90 0 [some (.ref (z + 0)), some (.int (Int32.ofInt p1))] [] (sw_M z n sw_Ft T K) Q := by
  unfold w90 at h
  refine go_l qd90_0 rfl ?_
  refine ga_gf (v := .ref (z + 1)) qd90_1 qc90 qf5_10 (sw_sl hn (by decide)) rfl rfl ?_
  refine go_l qd90_4 rfl ?_
  obtain ⟨r2, e1, h⟩ := sw_bind h
  refine ga_kv (a := 1) (as := [.int (Int32.ofInt p1)]) (rest := []) qd90_5 qk90_293 (sw_sl hn (by decide)) rfl rfl rfl (Nat.le_of_ble_eq_true rfl) (Nat.le_of_ble_eq_true rfl) rfl (A25 hn (by decide) e1 (sw_bkv ?_))
  obtain ⟨_u, e3, h⟩ := sw_bind h
  by_cases hb4 : r2 = 0
  · replace h := sw_ifY hb4 h
    refine ga_zneY (t := 22) qd90_8 e3 hb4 rfl ?_
    exact ga_th qt90_11 (Nat.le_of_ble_eq_true rfl) (kx _ (sw_sj h).symm)
  · replace h := sw_ifN hb4 h
    refine ga_zneN (t := 22) qd90_8 e3 hb4 rfl ?_
    exact ga_rv qd90_22 qr90 (kk _ (sw_sj h).symm)
theorem qk60_59 : sw_ck 60 59 90 0 1 5 2 = true := by decide +kernel
theorem qk60_36 : sw_ck 60 36 91 1 1 5 1 = true := by decide +kernel
theorem qc60 : sq_c 60 = 5 := by decide +kernel
theorem qk60_51 : sw_ck 60 51 1 0 1 0 3 = true := by decide +kernel
theorem qk60_62 : sw_ck 60 62 27 0 2 3 4 = true := by decide +kernel
theorem qr60 : sq_ret 60 = some .int := by decide +kernel
theorem qn60 : sw_nh 60 = true := by decide +kernel
-- 60: SewingPiles.speed(II)I
def w60 (T : sw_T) (p1 : Int) (p2 : Int) : Option ((Int × sw_T) ⊕ Nat) :=
  (w90 T p1).bind fun r2 =>
  sw_el r2 (fun r3 =>
    (w91 T p2).bind fun r8 =>
    sw_el r8 (fun r9 =>
      (w1 1 T).bind fun r14 =>
      (w27 1 r14 p1 p2).bind fun r16 =>
      some (.inl ((r16.1, r16.2)))
    ) (fun E10 =>
    some (.inr E10))
  ) (fun E4 =>
  some (.inr E4))
theorem A60 {G : sp_G} {z n : Nat} (hn : 228 ≤ n) {T : sw_T} {K : sw_K} {p1 : Int} {p2 : Int} {res : (Int × sw_T) ⊕ Nat} {Q : sp_R → sp_M → Prop} (h : w60 T p1 p2 = some res) (kk : ∀ r, res = .inl r → Q (.inl (some (.int (Int32.ofInt r.1)))) (sw_M z n sw_Ft r.2 K)) (kx : ∀ E, res = .inr E → Q (.inr (sw_en E)) (sw_M z n sw_Ft T (sw_th K))) : sq_go G 60 0 [some (.ref (z + 0)), some (.int (Int32.ofInt p1)), some (.int (Int32.ofInt p2))] [] (sw_M z n sw_Ft T K) Q := by
  unfold w60 at h
  refine go_l qd60_0 rfl ?_
  refine go_l qd60_1 rfl ?_
  obtain ⟨r2, e1, h⟩ := sw_bind h
  refine ga_kv (a := 0) (as := [.int (Int32.ofInt p1)]) (rest := []) qd60_2 qk60_59 (sw_sl hn (by decide)) rfl rfl rfl (Nat.le_of_ble_eq_true rfl) (Nat.le_of_ble_eq_true rfl) rfl (A90 hn e1 (fun r3 g5 => ?_) (fun E4 g6 => ?_))
  · refine sw_bk0 ?_
    replace h := sw_elL g5 h
    refine go_l qd60_5 rfl ?_
    obtain ⟨r8, e7, h⟩ := sw_bind h
    refine ga_kS (as := [.int (Int32.ofInt p2)]) (rest := []) qd60_6 qk60_36 rfl rfl (Nat.le_of_ble_eq_true rfl) (Nat.le_of_ble_eq_true rfl) rfl (A91 hn e7 (fun r9 g11 => ?_) (fun E10 g12 => ?_))
    · refine sw_bk0 ?_
      replace h := sw_elL g11 h
      refine go_l qd60_9 rfl ?_
      refine ga_gf (v := .ref (z + 73)) qd60_10 qc60 qf5_25 (sw_sl hn (by decide)) rfl rfl ?_
      refine go_l qd60_13 rfl ?_
      refine ga_gf (v := .ref (z + 1)) qd60_14 qc60 qf5_10 (sw_sl hn (by decide)) rfl rfl ?_
      obtain ⟨r14, e13, h⟩ := sw_bind h
      refine ga_kv (a := 73) (as := [.ref (z + 1)]) (rest := []) qd60_17 qk60_51 (sw_sl hn (by decide)) rfl rfl rfl (Nat.le_of_ble_eq_true rfl) (Nat.le_of_ble_eq_true rfl) rfl (A1 hn (by decide) e13 (sw_bk0 ?_))
      refine go_l qd60_20 rfl ?_
      refine ga_gf (v := .ref (z + 1)) qd60_21 qc60 qf5_10 (sw_sl hn (by decide)) rfl rfl ?_
      refine go_l qd60_24 rfl ?_
      refine go_l qd60_25 rfl ?_
      obtain ⟨r16, e15, h⟩ := sw_bind h
      refine ga_kv (a := 1) (as := [.int (Int32.ofInt p1), .int (Int32.ofInt p2)]) (rest := []) qd60_26 qk60_62 (sw_sl hn (by decide)) rfl rfl rfl (Nat.le_of_ble_eq_true rfl) (Nat.le_of_ble_eq_true rfl) rfl (A27 hn (by decide) e15 (sw_bkv ?_))
      exact ga_ri qd60_29 qr60 (kk _ (sw_sj h).symm)
    · replace h := sw_elR g12 h
      exact sw_thn qn60 (kx _ (sw_sj h).symm)
  · replace h := sw_elR g6 h
    exact sw_thn qn60 (kx _ (sw_sj h).symm)
theorem qk61_59 : sw_ck 61 59 90 0 1 5 2 = true := by decide +kernel
theorem qt61_16 : sw_tq 61 16 0 = true := by decide +kernel
theorem qc61 : sq_c 61 = 5 := by decide +kernel
theorem qk61_71 : sw_ck 61 71 29 0 1 3 2 = true := by decide +kernel
theorem qt61_37 : sw_tq 61 37 1 = true := by decide +kernel
theorem qk61_51 : sw_ck 61 51 1 0 1 0 3 = true := by decide +kernel
theorem qk61_77 : sw_ck 61 77 30 0 2 3 4 = true := by decide +kernel
theorem qr61 : sq_ret 61 = some .int := by decide +kernel
theorem qn61 : sw_nh 61 = true := by decide +kernel
-- 61: SewingPiles.lay(II)I
def w61 (T : sw_T) (p1 : Int) (p2 : Int) : Option ((Int × sw_T) ⊕ Nat) :=
  (w90 T p1).bind fun r2 =>
  sw_el r2 (fun r3 =>
    (sw_r2 p2 1).bind fun _u =>
    if p2 < 1 then
      some (.inr 0)
    else
      (sw_r2 p2 99).bind fun _u =>
      if 99 < p2 then
        some (.inr 0)
      else
        (w29 1 T p1).bind fun r12 =>
        (sw_r1 r12).bind fun _u =>
        if r12 = 0 then
          some (.inr 1)
        else
          (w1 1 T).bind fun r16 =>
          (w30 1 r16 p1 p2).bind fun r18 =>
          some (.inl ((r18.1, r18.2)))
  ) (fun E4 =>
  some (.inr E4))
theorem A61 {G : sp_G} {z n : Nat} (hn : 228 ≤ n) {T : sw_T} {K : sw_K} {p1 : Int} {p2 : Int} {res : (Int × sw_T) ⊕ Nat} {Q : sp_R → sp_M → Prop} (h : w61 T p1 p2 = some res) (kk : ∀ r, res = .inl r → Q (.inl (some (.int (Int32.ofInt r.1)))) (sw_M z n sw_Ft r.2 K)) (kx : ∀ E, res = .inr E → Q (.inr (sw_en E)) (sw_M z n sw_Ft T (sw_th K))) : sq_go G 61 0 [some (.ref (z + 0)), some (.int (Int32.ofInt p1)), some (.int (Int32.ofInt p2))] [] (sw_M z n sw_Ft T K) Q := by
  unfold w61 at h
  refine go_l qd61_0 rfl ?_
  refine go_l qd61_1 rfl ?_
  obtain ⟨r2, e1, h⟩ := sw_bind h
  refine ga_kv (a := 0) (as := [.int (Int32.ofInt p1)]) (rest := []) qd61_2 qk61_59 (sw_sl hn (by decide)) rfl rfl rfl (Nat.le_of_ble_eq_true rfl) (Nat.le_of_ble_eq_true rfl) rfl (A90 hn e1 (fun r3 g5 => ?_) (fun E4 g6 => ?_))
  · refine sw_bk0 ?_
    replace h := sw_elL g5 h
    refine go_l qd61_5 rfl ?_
    refine go_s qd61_6 rfl ?_
    obtain ⟨_u, e7, h⟩ := sw_bind h
    by_cases hb8 : p2 < 1
    · replace h := sw_ifY hb8 h
      refine ga_cltY (t := 16) qd61_7 e7 hb8 rfl ?_
      exact ga_th qt61_16 (Nat.le_of_ble_eq_true rfl) (kx _ (sw_sj h).symm)
    · replace h := sw_ifN hb8 h
      refine ga_cltN (t := 16) qd61_7 e7 hb8 rfl ?_
      refine go_l qd61_10 rfl ?_
      refine ga_k8 qd61_11 rfl ?_
      obtain ⟨_u, e9, h⟩ := sw_bind h
      by_cases hb10 : 99 < p2
      · replace h := sw_ifY hb10 h
        refine ga_cleY (t := 26) qd61_13 e9 hb10 rfl ?_
        exact ga_th qt61_16 (Nat.le_of_ble_eq_true rfl) (kx _ (sw_sj h).symm)
      · replace h := sw_ifN hb10 h
        refine ga_cleN (t := 26) qd61_13 e9 hb10 rfl ?_
        refine go_l qd61_26 rfl ?_
        refine ga_gf (v := .ref (z + 1)) qd61_27 qc61 qf5_10 (sw_sl hn (by decide)) rfl rfl ?_
        refine go_l qd61_30 rfl ?_
        obtain ⟨r12, e11, h⟩ := sw_bind h
        refine ga_kv (a := 1) (as := [.int (Int32.ofInt p1)]) (rest := []) qd61_31 qk61_71 (sw_sl hn (by decide)) rfl rfl rfl (Nat.le_of_ble_eq_true rfl) (Nat.le_of_ble_eq_true rfl) rfl (A29 hn (by decide) e11 (sw_bkv ?_))
        obtain ⟨_u, e13, h⟩ := sw_bind h
        by_cases hb14 : r12 = 0
        · replace h := sw_ifY hb14 h
          refine ga_zneY (t := 47) qd61_34 e13 hb14 rfl ?_
          exact ga_th qt61_37 (Nat.le_of_ble_eq_true rfl) (kx _ (sw_sj h).symm)
        · replace h := sw_ifN hb14 h
          refine ga_zneN (t := 47) qd61_34 e13 hb14 rfl ?_
          refine go_l qd61_47 rfl ?_
          refine ga_gf (v := .ref (z + 73)) qd61_48 qc61 qf5_25 (sw_sl hn (by decide)) rfl rfl ?_
          refine go_l qd61_51 rfl ?_
          refine ga_gf (v := .ref (z + 1)) qd61_52 qc61 qf5_10 (sw_sl hn (by decide)) rfl rfl ?_
          obtain ⟨r16, e15, h⟩ := sw_bind h
          refine ga_kv (a := 73) (as := [.ref (z + 1)]) (rest := []) qd61_55 qk61_51 (sw_sl hn (by decide)) rfl rfl rfl (Nat.le_of_ble_eq_true rfl) (Nat.le_of_ble_eq_true rfl) rfl (A1 hn (by decide) e15 (sw_bk0 ?_))
          refine go_l qd61_58 rfl ?_
          refine ga_gf (v := .ref (z + 1)) qd61_59 qc61 qf5_10 (sw_sl hn (by decide)) rfl rfl ?_
          refine go_l qd61_62 rfl ?_
          refine go_l qd61_63 rfl ?_
          obtain ⟨r18, e17, h⟩ := sw_bind h
          refine ga_kv (a := 1) (as := [.int (Int32.ofInt p1), .int (Int32.ofInt p2)]) (rest := []) qd61_64 qk61_77 (sw_sl hn (by decide)) rfl rfl rfl (Nat.le_of_ble_eq_true rfl) (Nat.le_of_ble_eq_true rfl) rfl (A30 hn (by decide) e17 (sw_bkv ?_))
          exact ga_ri qd61_67 qr61 (kk _ (sw_sj h).symm)
  · replace h := sw_elR g6 h
    exact sw_thn qn61 (kx _ (sw_sj h).symm)
theorem qk62_59 : sw_ck 62 59 90 0 1 5 2 = true := by decide +kernel
theorem qc62 : sq_c 62 = 5 := by decide +kernel
theorem qk62_51 : sw_ck 62 51 1 0 1 0 3 = true := by decide +kernel
theorem qk62_80 : sw_ck 62 80 28 0 1 3 3 = true := by decide +kernel
theorem qr62 : sq_ret 62 = some .int := by decide +kernel
theorem qn62 : sw_nh 62 = true := by decide +kernel
-- 62: SewingPiles.wake(I)I
def w62 (T : sw_T) (p1 : Int) : Option ((Int × sw_T) ⊕ Nat) :=
  (w90 T p1).bind fun r2 =>
  sw_el r2 (fun r3 =>
    (w1 1 T).bind fun r8 =>
    (w28 1 r8 p1).bind fun r10 =>
    some (.inl ((r10.1, r10.2)))
  ) (fun E4 =>
  some (.inr E4))
theorem A62 {G : sp_G} {z n : Nat} (hn : 228 ≤ n) {T : sw_T} {K : sw_K} {p1 : Int} {res : (Int × sw_T) ⊕ Nat} {Q : sp_R → sp_M → Prop} (h : w62 T p1 = some res) (kk : ∀ r, res = .inl r → Q (.inl (some (.int (Int32.ofInt r.1)))) (sw_M z n sw_Ft r.2 K)) (kx : ∀ E, res = .inr E → Q (.inr (sw_en E)) (sw_M z n sw_Ft T (sw_th K))) : sq_go G 62 0 [some (.ref (z + 0)), some (.int (Int32.ofInt p1))] [] (sw_M z n sw_Ft T K) Q := by
  unfold w62 at h
  refine go_l qd62_0 rfl ?_
  refine go_l qd62_1 rfl ?_
  obtain ⟨r2, e1, h⟩ := sw_bind h
  refine ga_kv (a := 0) (as := [.int (Int32.ofInt p1)]) (rest := []) qd62_2 qk62_59 (sw_sl hn (by decide)) rfl rfl rfl (Nat.le_of_ble_eq_true rfl) (Nat.le_of_ble_eq_true rfl) rfl (A90 hn e1 (fun r3 g5 => ?_) (fun E4 g6 => ?_))
  · refine sw_bk0 ?_
    replace h := sw_elL g5 h
    refine go_l qd62_5 rfl ?_
    refine ga_gf (v := .ref (z + 73)) qd62_6 qc62 qf5_25 (sw_sl hn (by decide)) rfl rfl ?_
    refine go_l qd62_9 rfl ?_
    refine ga_gf (v := .ref (z + 1)) qd62_10 qc62 qf5_10 (sw_sl hn (by decide)) rfl rfl ?_
    obtain ⟨r8, e7, h⟩ := sw_bind h
    refine ga_kv (a := 73) (as := [.ref (z + 1)]) (rest := []) qd62_13 qk62_51 (sw_sl hn (by decide)) rfl rfl rfl (Nat.le_of_ble_eq_true rfl) (Nat.le_of_ble_eq_true rfl) rfl (A1 hn (by decide) e7 (sw_bk0 ?_))
    refine go_l qd62_16 rfl ?_
    refine ga_gf (v := .ref (z + 1)) qd62_17 qc62 qf5_10 (sw_sl hn (by decide)) rfl rfl ?_
    refine go_l qd62_20 rfl ?_
    obtain ⟨r10, e9, h⟩ := sw_bind h
    refine ga_kv (a := 1) (as := [.int (Int32.ofInt p1)]) (rest := []) qd62_21 qk62_80 (sw_sl hn (by decide)) rfl rfl rfl (Nat.le_of_ble_eq_true rfl) (Nat.le_of_ble_eq_true rfl) rfl (A28 hn (by decide) e9 (sw_bkv ?_))
    exact ga_ri qd62_24 qr62 (kk _ (sw_sj h).symm)
  · replace h := sw_elR g6 h
    exact sw_thn qn62 (kx _ (sw_sj h).symm)
theorem qt63_11 : sw_tq 63 11 0 = true := by decide +kernel
theorem qc63 : sq_c 63 = 5 := by decide +kernel
theorem qk63_51 : sw_ck 63 51 1 0 1 0 3 = true := by decide +kernel
theorem qk63_85 : sw_ck 63 85 45 0 0 3 1 = true := by decide +kernel
theorem qk63_89 : sw_ck 63 89 32 0 1 3 3 = true := by decide +kernel
theorem qr63 : sq_ret 63 = some .int := by decide +kernel
-- 63: SewingPiles.pass(I)I
def w63 (T : sw_T) (p1 : Int) : Option ((Int × sw_T) ⊕ Nat) :=
  (sw_r2 p1 1).bind fun _u =>
  if p1 < 1 then
    some (.inr 0)
  else
    (sw_r2 p1 99).bind fun _u =>
    if 99 < p1 then
      some (.inr 0)
    else
      (w1 1 T).bind fun r6 =>
      (w45 1 r6).bind fun r8 =>
      (w32 1 r6 p1).bind fun r10 =>
      (w45 1 r10).bind fun r12 =>
      some (.inl (((r12 - r8), r10)))
theorem A63 {G : sp_G} {z n : Nat} (hn : 228 ≤ n) {T : sw_T} {K : sw_K} {p1 : Int} {res : (Int × sw_T) ⊕ Nat} {Q : sp_R → sp_M → Prop} (h : w63 T p1 = some res) (kk : ∀ r, res = .inl r → Q (.inl (some (.int (Int32.ofInt r.1)))) (sw_M z n sw_Ft r.2 K)) (kx : ∀ E, res = .inr E → Q (.inr (sw_en E)) (sw_M z n sw_Ft T (sw_th K))) : sq_go G 63 0 [some (.ref (z + 0)), some (.int (Int32.ofInt p1)), none] [] (sw_M z n sw_Ft T K) Q := by
  unfold w63 at h
  refine go_l qd63_0 rfl ?_
  refine go_s qd63_1 rfl ?_
  obtain ⟨_u, e1, h⟩ := sw_bind h
  by_cases hb2 : p1 < 1
  · replace h := sw_ifY hb2 h
    refine ga_cltY (t := 11) qd63_2 e1 hb2 rfl ?_
    exact ga_th qt63_11 (Nat.le_of_ble_eq_true rfl) (kx _ (sw_sj h).symm)
  · replace h := sw_ifN hb2 h
    refine ga_cltN (t := 11) qd63_2 e1 hb2 rfl ?_
    refine go_l qd63_5 rfl ?_
    refine ga_k8 qd63_6 rfl ?_
    obtain ⟨_u, e3, h⟩ := sw_bind h
    by_cases hb4 : 99 < p1
    · replace h := sw_ifY hb4 h
      refine ga_cleY (t := 21) qd63_8 e3 hb4 rfl ?_
      exact ga_th qt63_11 (Nat.le_of_ble_eq_true rfl) (kx _ (sw_sj h).symm)
    · replace h := sw_ifN hb4 h
      refine ga_cleN (t := 21) qd63_8 e3 hb4 rfl ?_
      refine go_l qd63_21 rfl ?_
      refine ga_gf (v := .ref (z + 73)) qd63_22 qc63 qf5_25 (sw_sl hn (by decide)) rfl rfl ?_
      refine go_l qd63_25 rfl ?_
      refine ga_gf (v := .ref (z + 1)) qd63_26 qc63 qf5_10 (sw_sl hn (by decide)) rfl rfl ?_
      obtain ⟨r6, e5, h⟩ := sw_bind h
      refine ga_kv (a := 73) (as := [.ref (z + 1)]) (rest := []) qd63_29 qk63_51 (sw_sl hn (by decide)) rfl rfl rfl (Nat.le_of_ble_eq_true rfl) (Nat.le_of_ble_eq_true rfl) rfl (A1 hn (by decide) e5 (sw_bk0 ?_))
      refine go_l qd63_32 rfl ?_
      refine ga_gf (v := .ref (z + 1)) qd63_33 qc63 qf5_10 (sw_sl hn (by decide)) rfl rfl ?_
      obtain ⟨r8, e7, h⟩ := sw_bind h
      refine ga_kv (a := 1) (as := []) (rest := []) qd63_36 qk63_85 (sw_sl hn (by decide)) rfl rfl rfl (Nat.le_of_ble_eq_true rfl) (Nat.le_of_ble_eq_true rfl) rfl (A45 hn (by decide) e7 (sw_bkv ?_))
      refine go_l (L' := [some (.ref (z + 0)), some (.int (Int32.ofInt p1)), some (.int (Int32.ofInt r8))]) (st' := []) qd63_39 rfl ?_
      refine go_l qd63_40 rfl ?_
      refine ga_gf (v := .ref (z + 1)) qd63_41 qc63 qf5_10 (sw_sl hn (by decide)) rfl rfl ?_
      refine go_l qd63_44 rfl ?_
      obtain ⟨r10, e9, h⟩ := sw_bind h
      refine ga_kv (a := 1) (as := [.int (Int32.ofInt p1)]) (rest := []) qd63_45 qk63_89 (sw_sl hn (by decide)) rfl rfl rfl (Nat.le_of_ble_eq_true rfl) (Nat.le_of_ble_eq_true rfl) rfl (A32 hn (by decide) e9 (sw_bk0 ?_))
      refine go_l qd63_48 rfl ?_
      refine ga_gf (v := .ref (z + 1)) qd63_49 qc63 qf5_10 (sw_sl hn (by decide)) rfl rfl ?_
      obtain ⟨r12, e11, h⟩ := sw_bind h
      refine ga_kv (a := 1) (as := []) (rest := []) qd63_52 qk63_85 (sw_sl hn (by decide)) rfl rfl rfl (Nat.le_of_ble_eq_true rfl) (Nat.le_of_ble_eq_true rfl) rfl (A45 hn (by decide) e11 (sw_bkv ?_))
      refine go_l qd63_55 rfl ?_
      refine ga_isub qd63_56 ?_
      exact ga_ri qd63_57 qr63 (kk _ (sw_sj h).symm)
theorem qt92_9 : sw_tq 92 9 2 = true := by decide +kernel
theorem qr92 : sq_ret 92 = none := by decide +kernel
-- 92: SewingPiles.checkSetting(I)V
def w92 (T : sw_T) (p0 : Int) : Option ((Unit) ⊕ Nat) :=
  (sw_r1 p0).bind fun _u =>
  if p0 < 0 then
    some (.inr 2)
  else
    (sw_r2 p0 3).bind fun _u =>
    if p0 < 3 then
      some (.inl (()))
    else
      some (.inr 2)
theorem A92 {G : sp_G} {z n : Nat} (hn : 228 ≤ n) {T : sw_T} {K : sw_K} {p0 : Int} {res : (Unit) ⊕ Nat} {Q : sp_R → sp_M → Prop} (h : w92 T p0 = some res) (kk : ∀ r, res = .inl r → Q (.inl none) (sw_M z n sw_Ft T K)) (kx : ∀ E, res = .inr E → Q (.inr (sw_en E)) (sw_M z n sw_Ft T (sw_th K))) : sq_go G 92 0 [some (.int (Int32.ofInt p0))] [] (sw_M z n sw_Ft T K) Q := by
  unfold w92 at h
  refine go_l qd92_0 rfl ?_
  obtain ⟨_u, e1, h⟩ := sw_bind h
  by_cases hb2 : p0 < 0
  · replace h := sw_ifY hb2 h
    refine ga_zltY (t := 9) qd92_1 e1 hb2 rfl ?_
    exact ga_th qt92_9 (Nat.le_of_ble_eq_true rfl) (kx _ (sw_sj h).symm)
  · replace h := sw_ifN hb2 h
    refine ga_zltN (t := 9) qd92_1 e1 hb2 rfl ?_
    refine go_l qd92_4 rfl ?_
    refine go_s qd92_5 rfl ?_
    obtain ⟨_u, e3, h⟩ := sw_bind h
    by_cases hb4 : p0 < 3
    · replace h := sw_ifY hb4 h
      refine ga_cltY (t := 20) qd92_6 e3 hb4 rfl ?_
      exact ga_rv qd92_20 qr92 (kk _ (sw_sj h).symm)
    · replace h := sw_ifN hb4 h
      refine ga_cltN (t := 20) qd92_6 e3 hb4 rfl ?_
      exact ga_th qt92_9 (Nat.le_of_ble_eq_true rfl) (kx _ (sw_sj h).symm)
theorem qk64_92 : sw_ck 64 92 92 1 1 5 1 = true := by decide +kernel
theorem qs5_95 : sp_fd sp_stT 5 95 = some 0 := by decide +kernel
theorem qc64 : sq_c 64 = 5 := by decide +kernel
theorem qt64_22 : sw_tq 64 22 0 = true := by decide +kernel
theorem qs5_99 : sp_fd sp_stT 5 99 = some 1 := by decide +kernel
theorem qk64_51 : sw_ck 64 51 1 0 1 0 3 = true := by decide +kernel
theorem qf5_104 : (sp_fd sp_flT 5 104).or (sp_fd sp_fnT 5 104) = some (3, 4) := by decide +kernel
theorem qr64 : sq_ret 64 = some .int := by decide +kernel
theorem qn64 : sw_nh 64 = true := by decide +kernel
-- 64: SewingPiles.set(II)I
def w64 (T : sw_T) (p1 : Int) (p2 : Int) : Option ((Int × sw_T) ⊕ Nat) :=
  (w92 T p1).bind fun r2 =>
  sw_el r2 (fun r3 =>
    (sw_ix 3 p1).bind fun _u =>
    (sw_r2 p2 (sw_gv 0 p1)).bind fun _u =>
    if p2 < (sw_gv 0 p1) then
      some (.inr 0)
    else
      (sw_ix 3 p1).bind fun _u =>
      (sw_r2 p2 (sw_gv 1 p1)).bind fun _u =>
      if (sw_gv 1 p1) < p2 then
        some (.inr 0)
      else
        (w1 1 T).bind fun r14 =>
        (sw_ld r14 2 3 p1).bind fun v16 =>
        (sw_st r14 2 3 p1 p2).bind fun T18 =>
        some (.inl ((v16, T18)))
  ) (fun E4 =>
  some (.inr E4))
theorem A64 {G : sp_G} {z n : Nat} (hn : 228 ≤ n) (hG : sw_G G z) {T : sw_T} {K : sw_K} {p1 : Int} {p2 : Int} {res : (Int × sw_T) ⊕ Nat} {Q : sp_R → sp_M → Prop} (h : w64 T p1 p2 = some res) (kk : ∀ r, res = .inl r → Q (.inl (some (.int (Int32.ofInt r.1)))) (sw_M z n sw_Ft r.2 K)) (kx : ∀ E, res = .inr E → Q (.inr (sw_en E)) (sw_M z n sw_Ft T (sw_th K))) : sq_go G 64 0 [some (.ref (z + 0)), some (.int (Int32.ofInt p1)), some (.int (Int32.ofInt p2)), none] [] (sw_M z n sw_Ft T K) Q := by
  unfold w64 at h
  refine go_l qd64_0 rfl ?_
  obtain ⟨r2, e1, h⟩ := sw_bind h
  refine ga_kS (as := [.int (Int32.ofInt p1)]) (rest := []) qd64_1 qk64_92 rfl rfl (Nat.le_of_ble_eq_true rfl) (Nat.le_of_ble_eq_true rfl) rfl (A92 hn e1 (fun r3 g5 => ?_) (fun E4 g6 => ?_))
  · refine sw_bk0 ?_
    replace h := sw_elL g5 h
    refine go_l qd64_4 rfl ?_
    refine ga_gs qd64_5 qc64 qs5_95 ?_
    refine go_l qd64_8 rfl ?_
    obtain ⟨_u, e7, h⟩ := sw_bind h
    refine ga_ldS qd64_9 hG (by decide) e7 ?_
    obtain ⟨_u, e8, h⟩ := sw_bind h
    by_cases hb9 : p2 < (sw_gv 0 p1)
    · replace h := sw_ifY hb9 h
      refine ga_cltY (t := 22) qd64_10 e8 hb9 rfl ?_
      exact ga_th qt64_22 (Nat.le_of_ble_eq_true rfl) (kx _ (sw_sj h).symm)
    · replace h := sw_ifN hb9 h
      refine ga_cltN (t := 22) qd64_10 e8 hb9 rfl ?_
      refine go_l qd64_13 rfl ?_
      refine ga_gs qd64_14 qc64 qs5_99 ?_
      refine go_l qd64_17 rfl ?_
      obtain ⟨_u, e10, h⟩ := sw_bind h
      refine ga_ldS qd64_18 hG (by decide) e10 ?_
      obtain ⟨_u, e11, h⟩ := sw_bind h
      by_cases hb12 : (sw_gv 1 p1) < p2
      · replace h := sw_ifY hb12 h
        refine ga_cleY (t := 32) qd64_19 e11 hb12 rfl ?_
        exact ga_th qt64_22 (Nat.le_of_ble_eq_true rfl) (kx _ (sw_sj h).symm)
      · replace h := sw_ifN hb12 h
        refine ga_cleN (t := 32) qd64_19 e11 hb12 rfl ?_
        refine go_l qd64_32 rfl ?_
        refine ga_gf (v := .ref (z + 73)) qd64_33 qc64 qf5_25 (sw_sl hn (by decide)) rfl rfl ?_
        refine go_l qd64_36 rfl ?_
        refine ga_gf (v := .ref (z + 1)) qd64_37 qc64 qf5_10 (sw_sl hn (by decide)) rfl rfl ?_
        obtain ⟨r14, e13, h⟩ := sw_bind h
        refine ga_kv (a := 73) (as := [.ref (z + 1)]) (rest := []) qd64_40 qk64_51 (sw_sl hn (by decide)) rfl rfl rfl (Nat.le_of_ble_eq_true rfl) (Nat.le_of_ble_eq_true rfl) rfl (A1 hn (by decide) e13 (sw_bk0 ?_))
        refine go_l qd64_43 rfl ?_
        refine ga_gf (v := .ref (z + 1)) qd64_44 qc64 qf5_10 (sw_sl hn (by decide)) rfl rfl ?_
        refine ga_gf (v := .ref (z + 2)) qd64_47 qc64 qf5_104 (sw_sl hn (by decide)) rfl rfl ?_
        refine go_l qd64_50 rfl ?_
        obtain ⟨v16, e15, h⟩ := sw_bind h
        refine ga_iald qd64_51 (sw_sl hn (by decide)) e15 ?_
        refine go_l (L' := [some (.ref (z + 0)), some (.int (Int32.ofInt p1)), some (.int (Int32.ofInt p2)), some (.int (Int32.ofInt v16))]) (st' := []) qd64_52 rfl ?_
        refine go_l qd64_53 rfl ?_
        refine ga_gf (v := .ref (z + 1)) qd64_54 qc64 qf5_10 (sw_sl hn (by decide)) rfl rfl ?_
        refine ga_gf (v := .ref (z + 2)) qd64_57 qc64 qf5_104 (sw_sl hn (by decide)) rfl rfl ?_
        refine go_l qd64_60 rfl ?_
        refine go_l qd64_61 rfl ?_
        obtain ⟨T18, e17, h⟩ := sw_bind h
        refine ga_iast qd64_62 (sw_sl hn (by decide)) e17 ?_
        refine go_l qd64_63 rfl ?_
        exact ga_ri qd64_64 qr64 (kk _ (sw_sj h).symm)
  · replace h := sw_elR g6 h
    exact sw_thn qn64 (kx _ (sw_sj h).symm)
theorem qt65_12 : sw_tq 65 12 0 = true := by decide +kernel
theorem qf5_32 : (sp_fd sp_flT 5 32).or (sp_fd sp_fnT 5 32) = some (5, 4) := by decide +kernel
theorem qc65 : sq_c 65 = 5 := by decide +kernel
theorem qf5_109 : (sp_fd sp_flT 5 109).or (sp_fd sp_fnT 5 109) = some (1, 1) := by decide +kernel
theorem qk65_114 : sw_ck 65 114 5 0 1 1 2 = true := by decide +kernel
theorem qr65 : sq_ret 65 = some .int := by decide +kernel
theorem qt65_34 : sw_tq 65 34 1 = true := by decide +kernel
-- 65: SewingPiles.append(I)I
def w65 (T : sw_T) (p1 : Int) : Option ((Int × sw_T) ⊕ Nat) :=
  (sw_r2 p1 33).bind fun _u =>
  if p1 < 33 then
    some (.inr 0)
  else
    (sw_r2 p1 126).bind fun _u =>
    if 126 < p1 then
      some (.inr 0)
    else
      (sw_r2 (T 219 1) 60).bind fun _u =>
      if (T 219 1) < 60 then
        (w5 T p1).bind fun r8 =>
        some (.inl (((r8 219 1), r8)))
      else
        some (.inr 1)
theorem A65 {G : sp_G} {z n : Nat} (hn : 228 ≤ n) {T : sw_T} {K : sw_K} {p1 : Int} {res : (Int × sw_T) ⊕ Nat} {Q : sp_R → sp_M → Prop} (h : w65 T p1 = some res) (kk : ∀ r, res = .inl r → Q (.inl (some (.int (Int32.ofInt r.1)))) (sw_M z n sw_Ft r.2 K)) (kx : ∀ E, res = .inr E → Q (.inr (sw_en E)) (sw_M z n sw_Ft T (sw_th K))) : sq_go G 65 0 [some (.ref (z + 0)), some (.int (Int32.ofInt p1))] [] (sw_M z n sw_Ft T K) Q := by
  unfold w65 at h
  refine go_l qd65_0 rfl ?_
  refine ga_k8 qd65_1 rfl ?_
  obtain ⟨_u, e1, h⟩ := sw_bind h
  by_cases hb2 : p1 < 33
  · replace h := sw_ifY hb2 h
    refine ga_cltY (t := 12) qd65_3 e1 hb2 rfl ?_
    exact ga_th qt65_12 (Nat.le_of_ble_eq_true rfl) (kx _ (sw_sj h).symm)
  · replace h := sw_ifN hb2 h
    refine ga_cltN (t := 12) qd65_3 e1 hb2 rfl ?_
    refine go_l qd65_6 rfl ?_
    refine ga_k8 qd65_7 rfl ?_
    obtain ⟨_u, e3, h⟩ := sw_bind h
    by_cases hb4 : 126 < p1
    · replace h := sw_ifY hb4 h
      refine ga_cleY (t := 22) qd65_9 e3 hb4 rfl ?_
      exact ga_th qt65_12 (Nat.le_of_ble_eq_true rfl) (kx _ (sw_sj h).symm)
    · replace h := sw_ifN hb4 h
      refine ga_cleN (t := 22) qd65_9 e3 hb4 rfl ?_
      refine go_l qd65_22 rfl ?_
      refine ga_gf (v := .ref (z + 219)) qd65_23 qc65 qf5_32 (sw_sl hn (by decide)) rfl rfl ?_
      refine ga_gf (v := .int (Int32.ofInt (T 219 1))) qd65_26 qc65 qf5_109 (sw_sl hn (by decide)) rfl rfl ?_
      refine ga_k8 qd65_29 rfl ?_
      obtain ⟨_u, e5, h⟩ := sw_bind h
      by_cases hb6 : (T 219 1) < 60
      · replace h := sw_ifY hb6 h
        refine ga_cltY (t := 44) qd65_31 e5 hb6 rfl ?_
        refine go_l qd65_44 rfl ?_
        refine ga_gf (v := .ref (z + 219)) qd65_45 qc65 qf5_32 (sw_sl hn (by decide)) rfl rfl ?_
        refine go_l qd65_48 rfl ?_
        obtain ⟨r8, e7, h⟩ := sw_bind h
        refine ga_kv (a := 219) (as := [.int (Int32.ofInt p1)]) (rest := []) qd65_49 qk65_114 (sw_sl hn (by decide)) rfl rfl rfl (Nat.le_of_ble_eq_true rfl) (Nat.le_of_ble_eq_true rfl) rfl (A5 hn e7 (sw_bk0 ?_))
        refine go_l qd65_52 rfl ?_
        refine ga_gf (v := .ref (z + 219)) qd65_53 qc65 qf5_32 (sw_sl hn (by decide)) rfl rfl ?_
        refine ga_gf (v := .int (Int32.ofInt (r8 219 1))) qd65_56 qc65 qf5_109 (sw_sl hn (by decide)) rfl rfl ?_
        exact ga_ri qd65_59 qr65 (kk _ (sw_sj h).symm)
      · replace h := sw_ifN hb6 h
        refine ga_cltN (t := 44) qd65_31 e5 hb6 rfl ?_
        exact ga_th qt65_34 (Nat.le_of_ble_eq_true rfl) (kx _ (sw_sj h).symm)
theorem qc66 : sq_c 66 = 5 := by decide +kernel
theorem qk66_117 : sw_ck 66 117 6 0 0 1 2 = true := by decide +kernel
theorem qr66 : sq_ret 66 = some .int := by decide +kernel
-- 66: SewingPiles.clearBuffer()I
def w66 (T : sw_T) : Option (Int × sw_T) :=
  (w6 T).bind fun r2 =>
  some ((r2.1, r2.2))
theorem A66 {G : sp_G} {z n : Nat} (hn : 228 ≤ n) {T : sw_T} {K : sw_K} {res : Int × sw_T} {Q : sp_R → sp_M → Prop} (h : w66 T = some res) (kk : Q (.inl (some (.int (Int32.ofInt res.1)))) (sw_M z n sw_Ft res.2 K)) : sq_go G 66 0 [some (.ref (z + 0))] [] (sw_M z n sw_Ft T K) Q := by
  unfold w66 at h
  refine go_l qd66_0 rfl ?_
  refine ga_gf (v := .ref (z + 219)) qd66_1 qc66 qf5_32 (sw_sl hn (by decide)) rfl rfl ?_
  obtain ⟨r2, e1, h⟩ := sw_bind h
  refine ga_kv (a := 219) (as := []) (rest := []) qd66_4 qk66_117 (sw_sl hn (by decide)) rfl rfl rfl (Nat.le_of_ble_eq_true rfl) (Nat.le_of_ble_eq_true rfl) rfl (A6 hn e1 (sw_bkv ?_))
  rw [← sw_sj h] at kk
  exact ga_ri qd66_7 qr66 kk
theorem qc67 : sq_c 67 = 5 := by decide +kernel
theorem qk67_120 : sw_ck 67 120 8 0 0 1 3 = true := by decide +kernel
theorem qr67 : sq_ret 67 = some .int := by decide +kernel
-- 67: SewingPiles.firstError()I
def w67 (T : sw_T) : Option (Int) :=
  (w8 T).bind fun r2 =>
  some (r2)
theorem A67 {G : sp_G} {z n : Nat} (hn : 228 ≤ n) {T : sw_T} {K : sw_K} {res : Int} {Q : sp_R → sp_M → Prop} (h : w67 T = some res) (kk : Q (.inl (some (.int (Int32.ofInt res)))) (sw_M z n sw_Ft T K)) : sq_go G 67 0 [some (.ref (z + 0))] [] (sw_M z n sw_Ft T K) Q := by
  unfold w67 at h
  refine go_l qd67_0 rfl ?_
  refine ga_gf (v := .ref (z + 219)) qd67_1 qc67 qf5_32 (sw_sl hn (by decide)) rfl rfl ?_
  obtain ⟨r2, e1, h⟩ := sw_bind h
  refine ga_kv (a := 219) (as := []) (rest := []) qd67_4 qk67_120 (sw_sl hn (by decide)) rfl rfl rfl (Nat.le_of_ble_eq_true rfl) (Nat.le_of_ble_eq_true rfl) rfl (A8 hn e1 (sw_bkv ?_))
  rw [← sw_sj h] at kk
  exact ga_ri qd67_7 qr67 kk
theorem qc93 : sq_c 93 = 5 := by decide +kernel
theorem qk93_285 : sw_ck 93 285 7 0 1 1 2 = true := by decide +kernel
theorem qk93_302 : sw_ck 93 302 11 0 1 1 4 = true := by decide +kernel
theorem qk93_89 : sw_ck 93 89 32 0 1 3 3 = true := by decide +kernel
theorem qr93 : sq_ret 93 = some .boolean := by decide +kernel
theorem qk93_293 : sw_ck 93 293 25 0 1 3 2 = true := by decide +kernel
theorem qk93_80 : sw_ck 93 80 28 0 1 3 3 = true := by decide +kernel
theorem qk93_62 : sw_ck 93 62 27 0 2 3 4 = true := by decide +kernel
theorem qk93_71 : sw_ck 93 71 29 0 1 3 2 = true := by decide +kernel
theorem qk93_77 : sw_ck 93 77 30 0 2 3 4 = true := by decide +kernel
-- 93: SewingPiles.doPart(I)Z
def w93 (T : sw_T) (p1 : Int) : Option (Int × sw_T) :=
  (w7 T p1).bind fun r2 =>
  (sw_r2 r2 109).bind fun _u =>
  if r2 = 109 then
    (w11 T (p1 + 1)).bind fun r6 =>
    (w32 1 T r6).bind fun r8 =>
    some ((1, r8))
  else
    (w7 T (p1 + 1)).bind fun r10 =>
    (w25 1 T (r10 - 48)).bind fun r12 =>
    (sw_r1 r12).bind fun _u =>
    if r12 = 0 then
      some ((0, T))
    else
      (sw_r2 r2 119).bind fun _u =>
      if r2 = 119 then
        (w28 1 T (r10 - 48)).bind fun r18 =>
        some ((1, r18.2))
      else
        (sw_r2 r2 118).bind fun _u =>
        if r2 = 118 then
          (w11 T (p1 + 2)).bind fun r22 =>
          (w27 1 T (r10 - 48) r22).bind fun r24 =>
          some ((1, r24.2))
        else
          (w29 1 T (r10 - 48)).bind fun r26 =>
          (sw_r1 r26).bind fun _u =>
          if r26 = 0 then
            some ((0, T))
          else
            (w11 T (p1 + 3)).bind fun r30 =>
            (w30 1 T (r10 - 48) r30).bind fun r32 =>
            some ((1, r32.2))
theorem A93 {G : sp_G} {z n : Nat} (hn : 228 ≤ n) {T : sw_T} {K : sw_K} {p1 : Int} {res : Int × sw_T} {Q : sp_R → sp_M → Prop} (h : w93 T p1 = some res) (kk : Q (.inl (some (.int (Int32.ofInt res.1)))) (sw_M z n sw_Ft res.2 K)) : sq_go G 93 0 [some (.ref (z + 0)), some (.int (Int32.ofInt p1)), none, none] [] (sw_M z n sw_Ft T K) Q := by
  unfold w93 at h
  refine go_l qd93_0 rfl ?_
  refine ga_gf (v := .ref (z + 219)) qd93_1 qc93 qf5_32 (sw_sl hn (by decide)) rfl rfl ?_
  refine go_l qd93_4 rfl ?_
  obtain ⟨r2, e1, h⟩ := sw_bind h
  refine ga_kv (a := 219) (as := [.int (Int32.ofInt p1)]) (rest := []) qd93_5 qk93_285 (sw_sl hn (by decide)) rfl rfl rfl (Nat.le_of_ble_eq_true rfl) (Nat.le_of_ble_eq_true rfl) rfl (A7 hn e1 (sw_bkv ?_))
  refine go_l (L' := [some (.ref (z + 0)), some (.int (Int32.ofInt p1)), some (.int (Int32.ofInt r2)), none]) (st' := []) qd93_8 rfl ?_
  refine go_l qd93_9 rfl ?_
  refine ga_k8 qd93_10 rfl ?_
  obtain ⟨_u, e3, h⟩ := sw_bind h
  by_cases hb4 : r2 = 109
  · replace h := sw_ifY hb4 h
    refine ga_cneY (t := 34) qd93_12 e3 hb4 rfl ?_
    refine go_l qd93_15 rfl ?_
    refine ga_gf (v := .ref (z + 1)) qd93_16 qc93 qf5_10 (sw_sl hn (by decide)) rfl rfl ?_
    refine go_l qd93_19 rfl ?_
    refine ga_gf (v := .ref (z + 219)) qd93_20 qc93 qf5_32 (sw_sl hn (by decide)) rfl rfl ?_
    refine go_l qd93_23 rfl ?_
    refine go_s qd93_24 rfl ?_
    refine ga_iadd qd93_25 ?_
    obtain ⟨r6, e5, h⟩ := sw_bind h
    refine ga_kv (a := 219) (as := [.int (Int32.ofInt (p1 + 1))]) (rest := [.ref (z + 1)]) qd93_26 qk93_302 (sw_sl hn (by decide)) rfl rfl rfl (Nat.le_of_ble_eq_true rfl) (Nat.le_of_ble_eq_true rfl) rfl (A11 hn e5 (sw_bkv ?_))
    obtain ⟨r8, e7, h⟩ := sw_bind h
    refine ga_kv (a := 1) (as := [.int (Int32.ofInt r6)]) (rest := []) qd93_29 qk93_89 (sw_sl hn (by decide)) rfl rfl rfl (Nat.le_of_ble_eq_true rfl) (Nat.le_of_ble_eq_true rfl) rfl (A32 hn (by decide) e7 (sw_bk0 ?_))
    refine go_s qd93_32 rfl ?_
    rw [← sw_sj h] at kk
    exact ga_rb (u := ()) qd93_33 qr93 (by decide) kk
  · replace h := sw_ifN hb4 h
    refine ga_cneN (t := 34) qd93_12 e3 hb4 rfl ?_
    refine go_l qd93_34 rfl ?_
    refine ga_gf (v := .ref (z + 219)) qd93_35 qc93 qf5_32 (sw_sl hn (by decide)) rfl rfl ?_
    refine go_l qd93_38 rfl ?_
    refine go_s qd93_39 rfl ?_
    refine ga_iadd qd93_40 ?_
    obtain ⟨r10, e9, h⟩ := sw_bind h
    refine ga_kv (a := 219) (as := [.int (Int32.ofInt (p1 + 1))]) (rest := []) qd93_41 qk93_285 (sw_sl hn (by decide)) rfl rfl rfl (Nat.le_of_ble_eq_true rfl) (Nat.le_of_ble_eq_true rfl) rfl (A7 hn e9 (sw_bkv ?_))
    refine ga_k8 qd93_44 rfl ?_
    refine ga_isub qd93_46 ?_
    refine go_l (L' := [some (.ref (z + 0)), some (.int (Int32.ofInt p1)), some (.int (Int32.ofInt r2)), some (.int (Int32.ofInt (r10 - 48)))]) (st' := []) qd93_47 rfl ?_
    refine go_l qd93_48 rfl ?_
    refine ga_gf (v := .ref (z + 1)) qd93_49 qc93 qf5_10 (sw_sl hn (by decide)) rfl rfl ?_
    refine go_l qd93_52 rfl ?_
    obtain ⟨r12, e11, h⟩ := sw_bind h
    refine ga_kv (a := 1) (as := [.int (Int32.ofInt (r10 - 48))]) (rest := []) qd93_53 qk93_293 (sw_sl hn (by decide)) rfl rfl rfl (Nat.le_of_ble_eq_true rfl) (Nat.le_of_ble_eq_true rfl) rfl (A25 hn (by decide) e11 (sw_bkv ?_))
    obtain ⟨_u, e13, h⟩ := sw_bind h
    by_cases hb14 : r12 = 0
    · replace h := sw_ifY hb14 h
      refine ga_zneY (t := 61) qd93_56 e13 hb14 rfl ?_
      refine go_s qd93_59 rfl ?_
      rw [← sw_sj h] at kk
      exact ga_rb (u := ()) qd93_60 qr93 (by decide) kk
    · replace h := sw_ifN hb14 h
      refine ga_zneN (t := 61) qd93_56 e13 hb14 rfl ?_
      refine go_l qd93_61 rfl ?_
      refine ga_k8 qd93_62 rfl ?_
      obtain ⟨_u, e15, h⟩ := sw_bind h
      by_cases hb16 : r2 = 119
      · replace h := sw_ifY hb16 h
        refine ga_cneY (t := 78) qd93_64 e15 hb16 rfl ?_
        refine go_l qd93_67 rfl ?_
        refine ga_gf (v := .ref (z + 1)) qd93_68 qc93 qf5_10 (sw_sl hn (by decide)) rfl rfl ?_
        refine go_l qd93_71 rfl ?_
        obtain ⟨r18, e17, h⟩ := sw_bind h
        refine ga_kv (a := 1) (as := [.int (Int32.ofInt (r10 - 48))]) (rest := []) qd93_72 qk93_80 (sw_sl hn (by decide)) rfl rfl rfl (Nat.le_of_ble_eq_true rfl) (Nat.le_of_ble_eq_true rfl) rfl (A28 hn (by decide) e17 (sw_bkv ?_))
        refine go_s qd93_75 rfl ?_
        refine go_s qd93_76 rfl ?_
        rw [← sw_sj h] at kk
        exact ga_rb (u := ()) qd93_77 qr93 (by decide) kk
      · replace h := sw_ifN hb16 h
        refine ga_cneN (t := 78) qd93_64 e15 hb16 rfl ?_
        refine go_l qd93_78 rfl ?_
        refine ga_k8 qd93_79 rfl ?_
        obtain ⟨_u, e19, h⟩ := sw_bind h
        by_cases hb20 : r2 = 118
        · replace h := sw_ifY hb20 h
          refine ga_cneY (t := 105) qd93_81 e19 hb20 rfl ?_
          refine go_l qd93_84 rfl ?_
          refine ga_gf (v := .ref (z + 1)) qd93_85 qc93 qf5_10 (sw_sl hn (by decide)) rfl rfl ?_
          refine go_l qd93_88 rfl ?_
          refine go_l qd93_89 rfl ?_
          refine ga_gf (v := .ref (z + 219)) qd93_90 qc93 qf5_32 (sw_sl hn (by decide)) rfl rfl ?_
          refine go_l qd93_93 rfl ?_
          refine go_s qd93_94 rfl ?_
          refine ga_iadd qd93_95 ?_
          obtain ⟨r22, e21, h⟩ := sw_bind h
          refine ga_kv (a := 219) (as := [.int (Int32.ofInt (p1 + 2))]) (rest := [.int (Int32.ofInt (r10 - 48)), .ref (z + 1)]) qd93_96 qk93_302 (sw_sl hn (by decide)) rfl rfl rfl (Nat.le_of_ble_eq_true rfl) (Nat.le_of_ble_eq_true rfl) rfl (A11 hn e21 (sw_bkv ?_))
          obtain ⟨r24, e23, h⟩ := sw_bind h
          refine ga_kv (a := 1) (as := [.int (Int32.ofInt (r10 - 48)), .int (Int32.ofInt r22)]) (rest := []) qd93_99 qk93_62 (sw_sl hn (by decide)) rfl rfl rfl (Nat.le_of_ble_eq_true rfl) (Nat.le_of_ble_eq_true rfl) rfl (A27 hn (by decide) e23 (sw_bkv ?_))
          refine go_s qd93_102 rfl ?_
          refine go_s qd93_103 rfl ?_
          rw [← sw_sj h] at kk
          exact ga_rb (u := ()) qd93_104 qr93 (by decide) kk
        · replace h := sw_ifN hb20 h
          refine ga_cneN (t := 105) qd93_81 e19 hb20 rfl ?_
          refine go_l qd93_105 rfl ?_
          refine ga_gf (v := .ref (z + 1)) qd93_106 qc93 qf5_10 (sw_sl hn (by decide)) rfl rfl ?_
          refine go_l qd93_109 rfl ?_
          obtain ⟨r26, e25, h⟩ := sw_bind h
          refine ga_kv (a := 1) (as := [.int (Int32.ofInt (r10 - 48))]) (rest := []) qd93_110 qk93_71 (sw_sl hn (by decide)) rfl rfl rfl (Nat.le_of_ble_eq_true rfl) (Nat.le_of_ble_eq_true rfl) rfl (A29 hn (by decide) e25 (sw_bkv ?_))
          obtain ⟨_u, e27, h⟩ := sw_bind h
          by_cases hb28 : r26 = 0
          · replace h := sw_ifY hb28 h
            refine ga_zneY (t := 118) qd93_113 e27 hb28 rfl ?_
            refine go_s qd93_116 rfl ?_
            rw [← sw_sj h] at kk
            exact ga_rb (u := ()) qd93_117 qr93 (by decide) kk
          · replace h := sw_ifN hb28 h
            refine ga_zneN (t := 118) qd93_113 e27 hb28 rfl ?_
            refine go_l qd93_118 rfl ?_
            refine ga_gf (v := .ref (z + 1)) qd93_119 qc93 qf5_10 (sw_sl hn (by decide)) rfl rfl ?_
            refine go_l qd93_122 rfl ?_
            refine go_l qd93_123 rfl ?_
            refine ga_gf (v := .ref (z + 219)) qd93_124 qc93 qf5_32 (sw_sl hn (by decide)) rfl rfl ?_
            refine go_l qd93_127 rfl ?_
            refine go_s qd93_128 rfl ?_
            refine ga_iadd qd93_129 ?_
            obtain ⟨r30, e29, h⟩ := sw_bind h
            refine ga_kv (a := 219) (as := [.int (Int32.ofInt (p1 + 3))]) (rest := [.int (Int32.ofInt (r10 - 48)), .ref (z + 1)]) qd93_130 qk93_302 (sw_sl hn (by decide)) rfl rfl rfl (Nat.le_of_ble_eq_true rfl) (Nat.le_of_ble_eq_true rfl) rfl (A11 hn e29 (sw_bkv ?_))
            obtain ⟨r32, e31, h⟩ := sw_bind h
            refine ga_kv (a := 1) (as := [.int (Int32.ofInt (r10 - 48)), .int (Int32.ofInt r30)]) (rest := []) qd93_133 qk93_77 (sw_sl hn (by decide)) rfl rfl rfl (Nat.le_of_ble_eq_true rfl) (Nat.le_of_ble_eq_true rfl) rfl (A30 hn (by decide) e31 (sw_bkv ?_))
            refine go_s qd93_136 rfl ?_
            refine go_s qd93_137 rfl ?_
            rw [← sw_sj h] at kk
            exact ga_rb (u := ()) qd93_138 qr93 (by decide) kk
theorem qc68 : sq_c 68 = 5 := by decide +kernel
theorem qk68_123 : sw_ck 68 123 9 0 0 1 3 = true := by decide +kernel
theorem qt68_10 : sw_tq 68 10 0 = true := by decide +kernel
theorem qk68_51 : sw_ck 68 51 1 0 1 0 3 = true := by decide +kernel
theorem qk68_129 : sw_ck 68 129 10 0 1 1 2 = true := by decide +kernel
theorem qk68_132 : sw_ck 68 132 93 0 1 5 4 = true := by decide +kernel
theorem qk68_117 : sw_ck 68 117 6 0 0 1 2 = true := by decide +kernel
theorem qr68 : sq_ret 68 = some .int := by decide +kernel
-- 68: SewingPiles.obey()I
def w68_35 : Nat → sw_T → Int → Int → Option (sw_T × Int)
  | 0, _, _, _ => none
  | m + 1, T, l1, l2 =>
    (sw_r2 l2 (T 219 1)).bind fun _u =>
    if l2 < (T 219 1) then
      (w10 T l2).bind fun r10 =>
      (sw_r1 r10).bind fun _u =>
      if r10 = 0 then
        w68_35 m T l1 (l2 + 1)
      else
        (w93 T l2).bind fun r14 =>
        (sw_r1 r14.1).bind fun _u =>
        if r14.1 = 0 then
          some ((r14.2, l1))
        else
          w68_35 m r14.2 (l1 + 1) (l2 + 1)
    else
      some ((T, l1))
theorem B68_35 {G : sp_G} {z n : Nat} (hn : 228 ≤ n) {K : sw_K} {res : sw_T × Int} {Q : sp_R → sp_M → Prop} (kk : sq_go G 68 77 [some (.ref (z + 0)), some (.int (Int32.ofInt res.2)), none] [] (sw_M z n sw_Ft res.1 K) Q) : ∀ (m : Nat) (T : sw_T) (l1 : Int) (l2 : Int), w68_35  m T l1 l2 = some res → sq_go G 68 35 [some (.ref (z + 0)), some (.int (Int32.ofInt l1)), some (.int (Int32.ofInt l2))] [] (sw_M z n sw_Ft T K) Q := by
  intro m
  induction m with
  | zero => intro T l1 l2 h; cases h
  | succ m ih =>
    intro T l1 l2 h
    rw [w68_35] at h
    refine go_l qd68_35 rfl ?_
    refine go_l qd68_36 rfl ?_
    refine ga_gf (v := .ref (z + 219)) qd68_37 qc68 qf5_32 (sw_sl hn (by decide)) rfl rfl ?_
    refine ga_gf (v := .int (Int32.ofInt (T 219 1))) qd68_40 qc68 qf5_109 (sw_sl hn (by decide)) rfl rfl ?_
    obtain ⟨_u, e7, h⟩ := sw_bind h
    by_cases hb8 : l2 < (T 219 1)
    · replace h := sw_ifY hb8 h
      refine ga_cgeY (t := 77) qd68_43 e7 hb8 rfl ?_
      refine go_l qd68_46 rfl ?_
      refine ga_gf (v := .ref (z + 219)) qd68_47 qc68 qf5_32 (sw_sl hn (by decide)) rfl rfl ?_
      refine go_l qd68_50 rfl ?_
      obtain ⟨r10, e9, h⟩ := sw_bind h
      refine ga_kv (a := 219) (as := [.int (Int32.ofInt l2)]) (rest := []) qd68_51 qk68_129 (sw_sl hn (by decide)) rfl rfl rfl (Nat.le_of_ble_eq_true rfl) (Nat.le_of_ble_eq_true rfl) rfl (A10 hn e9 (sw_bkv ?_))
      obtain ⟨_u, e11, h⟩ := sw_bind h
      by_cases hb12 : r10 = 0
      · replace h := sw_ifY hb12 h
        refine ga_zeqY (t := 71) qd68_54 e11 hb12 rfl ?_
        refine ga_ii (L' := [some (.ref (z + 0)), some (.int (Int32.ofInt l1)), some (.int (Int32.ofInt (l2 + 1)))]) qd68_71 rfl rfl ?_
        refine ga_jp (t := 35) qd68_74 rfl ?_
        exact sq_weak (L := [some (.ref (z + 0)), some (.int (Int32.ofInt l1)), some (.int (Int32.ofInt (l2 + 1)))]) ⟨rfl, rfl, rfl, trivial⟩ (ih _ _ _ h)
      · replace h := sw_ifN hb12 h
        refine ga_zeqN (t := 71) qd68_54 e11 hb12 rfl ?_
        refine go_l qd68_57 rfl ?_
        refine go_l qd68_58 rfl ?_
        obtain ⟨r14, e13, h⟩ := sw_bind h
        refine ga_kv (a := 0) (as := [.int (Int32.ofInt l2)]) (rest := []) qd68_59 qk68_132 (sw_sl hn (by decide)) rfl rfl rfl (Nat.le_of_ble_eq_true rfl) (Nat.le_of_ble_eq_true rfl) rfl (A93 hn e13 (sw_bkv ?_))
        obtain ⟨_u, e15, h⟩ := sw_bind h
        by_cases hb16 : r14.1 = 0
        · replace h := sw_ifY hb16 h
          refine ga_zneY (t := 68) qd68_62 e15 hb16 rfl ?_
          refine ga_jp (t := 77) qd68_65 rfl ?_
          rw [← sw_sj h] at kk
          exact sq_weak (L := [some (.ref (z + 0)), some (.int (Int32.ofInt l1)), none]) ⟨rfl, rfl, trivial⟩ kk
        · replace h := sw_ifN hb16 h
          refine ga_zneN (t := 68) qd68_62 e15 hb16 rfl ?_
          refine ga_ii (L' := [some (.ref (z + 0)), some (.int (Int32.ofInt (l1 + 1))), some (.int (Int32.ofInt l2))]) qd68_68 rfl rfl ?_
          refine ga_ii (L' := [some (.ref (z + 0)), some (.int (Int32.ofInt (l1 + 1))), some (.int (Int32.ofInt (l2 + 1)))]) qd68_71 rfl rfl ?_
          refine ga_jp (t := 35) qd68_74 rfl ?_
          exact sq_weak (L := [some (.ref (z + 0)), some (.int (Int32.ofInt (l1 + 1))), some (.int (Int32.ofInt (l2 + 1)))]) ⟨rfl, rfl, rfl, trivial⟩ (ih _ _ _ h)
    · replace h := sw_ifN hb8 h
      refine ga_cgeN (t := 77) qd68_43 e7 hb8 rfl ?_
      rw [← sw_sj h] at kk
      exact sq_weak (L := [some (.ref (z + 0)), some (.int (Int32.ofInt l1)), none]) ⟨rfl, rfl, trivial⟩ kk
def w68 (T : sw_T) : Option ((Int × sw_T) ⊕ Nat) :=
  (w9 T).bind fun r2 =>
  (sw_r1 r2).bind fun _u =>
  if r2 = 0 then
    some (.inr 0)
  else
    (w1 1 T).bind fun r6 =>
    (w68_35 sw_N r6 0 0).bind fun x17 =>
    (w6 x17.1).bind fun r20 =>
    some (.inl ((x17.2, r20.2)))
theorem A68 {G : sp_G} {z n : Nat} (hn : 228 ≤ n) {T : sw_T} {K : sw_K} {res : (Int × sw_T) ⊕ Nat} {Q : sp_R → sp_M → Prop} (h : w68 T = some res) (kk : ∀ r, res = .inl r → Q (.inl (some (.int (Int32.ofInt r.1)))) (sw_M z n sw_Ft r.2 K)) (kx : ∀ E, res = .inr E → Q (.inr (sw_en E)) (sw_M z n sw_Ft T (sw_th K))) : sq_go G 68 0 [some (.ref (z + 0)), none, none] [] (sw_M z n sw_Ft T K) Q := by
  unfold w68 at h
  refine go_l qd68_0 rfl ?_
  refine ga_gf (v := .ref (z + 219)) qd68_1 qc68 qf5_32 (sw_sl hn (by decide)) rfl rfl ?_
  obtain ⟨r2, e1, h⟩ := sw_bind h
  refine ga_kv (a := 219) (as := []) (rest := []) qd68_4 qk68_123 (sw_sl hn (by decide)) rfl rfl rfl (Nat.le_of_ble_eq_true rfl) (Nat.le_of_ble_eq_true rfl) rfl (A9 hn e1 (sw_bkv ?_))
  obtain ⟨_u, e3, h⟩ := sw_bind h
  by_cases hb4 : r2 = 0
  · replace h := sw_ifY hb4 h
    refine ga_zneY (t := 20) qd68_7 e3 hb4 rfl ?_
    exact ga_th qt68_10 (Nat.le_of_ble_eq_true rfl) (kx _ (sw_sj h).symm)
  · replace h := sw_ifN hb4 h
    refine ga_zneN (t := 20) qd68_7 e3 hb4 rfl ?_
    refine go_l qd68_20 rfl ?_
    refine ga_gf (v := .ref (z + 73)) qd68_21 qc68 qf5_25 (sw_sl hn (by decide)) rfl rfl ?_
    refine go_l qd68_24 rfl ?_
    refine ga_gf (v := .ref (z + 1)) qd68_25 qc68 qf5_10 (sw_sl hn (by decide)) rfl rfl ?_
    obtain ⟨r6, e5, h⟩ := sw_bind h
    refine ga_kv (a := 73) (as := [.ref (z + 1)]) (rest := []) qd68_28 qk68_51 (sw_sl hn (by decide)) rfl rfl rfl (Nat.le_of_ble_eq_true rfl) (Nat.le_of_ble_eq_true rfl) rfl (A1 hn (by decide) e5 (sw_bk0 ?_))
    refine go_s qd68_31 rfl ?_
    refine go_l (L' := [some (.ref (z + 0)), some (.int (Int32.ofInt 0)), none]) (st' := []) qd68_32 rfl ?_
    refine go_s qd68_33 rfl ?_
    refine go_l (L' := [some (.ref (z + 0)), some (.int (Int32.ofInt 0)), some (.int (Int32.ofInt 0))]) (st' := []) qd68_34 rfl ?_
    obtain ⟨x17, e18, h⟩ := sw_bind h
    refine sq_weak (L := [some (.ref (z + 0)), some (.int (Int32.ofInt 0)), some (.int (Int32.ofInt 0))]) ⟨rfl, rfl, rfl, trivial⟩ (B68_35 hn (res := x17) ?_ _ _ _ _ e18)
    refine go_l qd68_77 rfl ?_
    refine ga_gf (v := .ref (z + 219)) qd68_78 qc68 qf5_32 (sw_sl hn (by decide)) rfl rfl ?_
    obtain ⟨r20, e19, h⟩ := sw_bind h
    refine ga_kv (a := 219) (as := []) (rest := []) qd68_81 qk68_117 (sw_sl hn (by decide)) rfl rfl rfl (Nat.le_of_ble_eq_true rfl) (Nat.le_of_ble_eq_true rfl) rfl (A6 hn e19 (sw_bkv ?_))
    refine go_s qd68_84 rfl ?_
    refine go_l qd68_85 rfl ?_
    exact ga_ri qd68_86 qr68 (kk _ (sw_sj h).symm)
theorem qf5_16 : (sp_fd sp_flT 5 16).or (sp_fd sp_fnT 5 16) = some (5, 1) := by decide +kernel
theorem qc69 : sq_c 69 = 5 := by decide +kernel
theorem qk69_135 : sw_ck 69 135 24 0 1 3 3 = true := by decide +kernel
theorem qg5_138 : sp_fd sp_flT 5 138 = some (5, 5) := by decide +kernel
theorem qf5_142 : (sp_fd sp_flT 5 142).or (sp_fd sp_fnT 5 142) = some (3, 0) := by decide +kernel
theorem qr69 : sq_ret 69 = some .int := by decide +kernel
-- 69: SewingPiles.keep()I
def w69 (T : sw_T) : Option (Int × sw_T) :=
  (w24 25 1 T).bind fun r2 =>
  (sw_pb r2 0 5 1).bind fun T3 =>
  some (((T3 1 0), T3))
theorem A69 {G : sp_G} {z n : Nat} (hn : 228 ≤ n) {T : sw_T} {K : sw_K} {res : Int × sw_T} {Q : sp_R → sp_M → Prop} (h : w69 T = some res) (kk : Q (.inl (some (.int (Int32.ofInt res.1)))) (sw_M z n sw_Ft res.2 K)) : sq_go G 69 0 [some (.ref (z + 0))] [] (sw_M z n sw_Ft T K) Q := by
  unfold w69 at h
  refine go_l qd69_0 rfl ?_
  refine ga_gf (v := .ref (z + 25)) qd69_1 qc69 qf5_16 (sw_sl hn (by decide)) rfl rfl ?_
  refine go_l qd69_4 rfl ?_
  refine ga_gf (v := .ref (z + 1)) qd69_5 qc69 qf5_10 (sw_sl hn (by decide)) rfl rfl ?_
  obtain ⟨r2, e1, h⟩ := sw_bind h
  refine ga_kv (a := 25) (as := [.ref (z + 1)]) (rest := []) qd69_8 qk69_135 (sw_sl hn (by decide)) rfl rfl rfl (Nat.le_of_ble_eq_true rfl) (Nat.le_of_ble_eq_true rfl) rfl (A24 hn (by decide) (by decide) e1 (sw_bk0 ?_))
  refine go_l qd69_11 rfl ?_
  refine go_s qd69_12 rfl ?_
  obtain ⟨T3, e4, h⟩ := sw_bind h
  refine ga_pfb qd69_13 qc69 qg5_138 (sw_sl hn (by decide)) rfl qi5_5 e4 ?_
  refine go_l qd69_16 rfl ?_
  refine ga_gf (v := .ref (z + 1)) qd69_17 qc69 qf5_10 (sw_sl hn (by decide)) rfl rfl ?_
  refine ga_gf (v := .int (Int32.ofInt (T3 1 0))) qd69_20 qc69 qf5_142 (sw_sl hn (by decide)) rfl rfl ?_
  rw [← sw_sj h] at kk
  exact ga_ri qd69_23 qr69 kk
theorem qf5_138 : (sp_fd sp_flT 5 138).or (sp_fd sp_fnT 5 138) = some (5, 5) := by decide +kernel
theorem qc70 : sq_c 70 = 5 := by decide +kernel
theorem qt70_7 : sw_tq 70 7 1 = true := by decide +kernel
theorem qk70_51 : sw_ck 70 51 1 0 1 0 3 = true := by decide +kernel
theorem qk70_135 : sw_ck 70 135 24 0 1 3 3 = true := by decide +kernel
theorem qr70 : sq_ret 70 = some .int := by decide +kernel
-- 70: SewingPiles.goBack()I
def w70 (T : sw_T) : Option ((Int × sw_T) ⊕ Nat) :=
  (sw_r1 (T 0 5)).bind fun _u =>
  if (T 0 5) = 0 then
    some (.inr 1)
  else
    (w1 1 T).bind fun r4 =>
    (w24 1 25 r4).bind fun r6 =>
    some (.inl (((r6 1 0), r6)))
theorem A70 {G : sp_G} {z n : Nat} (hn : 228 ≤ n) {T : sw_T} {K : sw_K} {res : (Int × sw_T) ⊕ Nat} {Q : sp_R → sp_M → Prop} (h : w70 T = some res) (kk : ∀ r, res = .inl r → Q (.inl (some (.int (Int32.ofInt r.1)))) (sw_M z n sw_Ft r.2 K)) (kx : ∀ E, res = .inr E → Q (.inr (sw_en E)) (sw_M z n sw_Ft T (sw_th K))) : sq_go G 70 0 [some (.ref (z + 0))] [] (sw_M z n sw_Ft T K) Q := by
  unfold w70 at h
  refine go_l qd70_0 rfl ?_
  refine ga_gf (v := .int (Int32.ofInt (T 0 5))) qd70_1 qc70 qf5_138 (sw_sl hn (by decide)) rfl rfl ?_
  obtain ⟨_u, e1, h⟩ := sw_bind h
  by_cases hb2 : (T 0 5) = 0
  · replace h := sw_ifY hb2 h
    refine ga_zneY (t := 17) qd70_4 e1 hb2 rfl ?_
    exact ga_th qt70_7 (Nat.le_of_ble_eq_true rfl) (kx _ (sw_sj h).symm)
  · replace h := sw_ifN hb2 h
    refine ga_zneN (t := 17) qd70_4 e1 hb2 rfl ?_
    refine go_l qd70_17 rfl ?_
    refine ga_gf (v := .ref (z + 73)) qd70_18 qc70 qf5_25 (sw_sl hn (by decide)) rfl rfl ?_
    refine go_l qd70_21 rfl ?_
    refine ga_gf (v := .ref (z + 1)) qd70_22 qc70 qf5_10 (sw_sl hn (by decide)) rfl rfl ?_
    obtain ⟨r4, e3, h⟩ := sw_bind h
    refine ga_kv (a := 73) (as := [.ref (z + 1)]) (rest := []) qd70_25 qk70_51 (sw_sl hn (by decide)) rfl rfl rfl (Nat.le_of_ble_eq_true rfl) (Nat.le_of_ble_eq_true rfl) rfl (A1 hn (by decide) e3 (sw_bk0 ?_))
    refine go_l qd70_28 rfl ?_
    refine ga_gf (v := .ref (z + 1)) qd70_29 qc70 qf5_10 (sw_sl hn (by decide)) rfl rfl ?_
    refine go_l qd70_32 rfl ?_
    refine ga_gf (v := .ref (z + 25)) qd70_33 qc70 qf5_16 (sw_sl hn (by decide)) rfl rfl ?_
    obtain ⟨r6, e5, h⟩ := sw_bind h
    refine ga_kv (a := 1) (as := [.ref (z + 25)]) (rest := []) qd70_36 qk70_135 (sw_sl hn (by decide)) rfl rfl rfl (Nat.le_of_ble_eq_true rfl) (Nat.le_of_ble_eq_true rfl) rfl (A24 hn (by decide) (by decide) e5 (sw_bk0 ?_))
    refine go_l qd70_39 rfl ?_
    refine ga_gf (v := .ref (z + 1)) qd70_40 qc70 qf5_10 (sw_sl hn (by decide)) rfl rfl ?_
    refine ga_gf (v := .int (Int32.ofInt (r6 1 0))) qd70_43 qc70 qf5_142 (sw_sl hn (by decide)) rfl rfl ?_
    exact ga_ri qd70_46 qr70 (kk _ (sw_sj h).symm)
theorem qc71 : sq_c 71 = 5 := by decide +kernel
theorem qf5_147 : (sp_fd sp_flT 5 147).or (sp_fd sp_fnT 5 147) = some (0, 1) := by decide +kernel
theorem qt71_10 : sw_tq 71 10 1 = true := by decide +kernel
theorem qk71_152 : sw_ck 71 152 2 0 1 0 3 = true := by decide +kernel
theorem qr71 : sq_ret 71 = some .int := by decide +kernel
-- 71: SewingPiles.undo()I
def w71 (T : sw_T) : Option ((Int × sw_T) ⊕ Nat) :=
  (sw_r1 (T 73 1)).bind fun _u =>
  if (T 73 1) = 0 then
    some (.inr 1)
  else
    (w2 1 T).bind fun r4 =>
    some (.inl (((r4 73 1), r4)))
theorem A71 {G : sp_G} {z n : Nat} (hn : 228 ≤ n) {T : sw_T} {K : sw_K} {res : (Int × sw_T) ⊕ Nat} {Q : sp_R → sp_M → Prop} (h : w71 T = some res) (kk : ∀ r, res = .inl r → Q (.inl (some (.int (Int32.ofInt r.1)))) (sw_M z n sw_Ft r.2 K)) (kx : ∀ E, res = .inr E → Q (.inr (sw_en E)) (sw_M z n sw_Ft T (sw_th K))) : sq_go G 71 0 [some (.ref (z + 0))] [] (sw_M z n sw_Ft T K) Q := by
  unfold w71 at h
  refine go_l qd71_0 rfl ?_
  refine ga_gf (v := .ref (z + 73)) qd71_1 qc71 qf5_25 (sw_sl hn (by decide)) rfl rfl ?_
  refine ga_gf (v := .int (Int32.ofInt (T 73 1))) qd71_4 qc71 qf5_147 (sw_sl hn (by decide)) rfl rfl ?_
  obtain ⟨_u, e1, h⟩ := sw_bind h
  by_cases hb2 : (T 73 1) = 0
  · replace h := sw_ifY hb2 h
    refine ga_zneY (t := 20) qd71_7 e1 hb2 rfl ?_
    exact ga_th qt71_10 (Nat.le_of_ble_eq_true rfl) (kx _ (sw_sj h).symm)
  · replace h := sw_ifN hb2 h
    refine ga_zneN (t := 20) qd71_7 e1 hb2 rfl ?_
    refine go_l qd71_20 rfl ?_
    refine ga_gf (v := .ref (z + 73)) qd71_21 qc71 qf5_25 (sw_sl hn (by decide)) rfl rfl ?_
    refine go_l qd71_24 rfl ?_
    refine ga_gf (v := .ref (z + 1)) qd71_25 qc71 qf5_10 (sw_sl hn (by decide)) rfl rfl ?_
    obtain ⟨r4, e3, h⟩ := sw_bind h
    refine ga_kv (a := 73) (as := [.ref (z + 1)]) (rest := []) qd71_28 qk71_152 (sw_sl hn (by decide)) rfl rfl rfl (Nat.le_of_ble_eq_true rfl) (Nat.le_of_ble_eq_true rfl) rfl (A2 hn (by decide) e3 (sw_bk0 ?_))
    refine go_l qd71_31 rfl ?_
    refine ga_gf (v := .ref (z + 73)) qd71_32 qc71 qf5_25 (sw_sl hn (by decide)) rfl rfl ?_
    refine ga_gf (v := .int (Int32.ofInt (r4 73 1))) qd71_35 qc71 qf5_147 (sw_sl hn (by decide)) rfl rfl ?_
    exact ga_ri qd71_38 qr71 (kk _ (sw_sj h).symm)
theorem qk72_59 : sw_ck 72 59 90 0 1 5 2 = true := by decide +kernel
theorem qt72_15 : sw_tq 72 15 0 = true := by decide +kernel
theorem qc72 : sq_c 72 = 5 := by decide +kernel
theorem qk72_157 : sw_ck 72 157 42 0 2 3 3 = true := by decide +kernel
theorem qr72 : sq_ret 72 = some .int := by decide +kernel
theorem qn72 : sw_nh 72 = true := by decide +kernel
-- 72: SewingPiles.seamstress(II)I
def w72 (T : sw_T) (p1 : Int) (p2 : Int) : Option ((Int) ⊕ Nat) :=
  (w90 T p1).bind fun r2 =>
  sw_el r2 (fun r3 =>
    (sw_r1 p2).bind fun _u =>
    if p2 < 0 then
      some (.inr 0)
    else
      (sw_r2 p2 10).bind fun _u =>
      if p2 < 10 then
        (w42 1 T p1 p2).bind fun r12 =>
        some (.inl (r12))
      else
        some (.inr 0)
  ) (fun E4 =>
  some (.inr E4))
theorem A72 {G : sp_G} {z n : Nat} (hn : 228 ≤ n) {T : sw_T} {K : sw_K} {p1 : Int} {p2 : Int} {res : (Int) ⊕ Nat} {Q : sp_R → sp_M → Prop} (h : w72 T p1 p2 = some res) (kk : ∀ r, res = .inl r → Q (.inl (some (.int (Int32.ofInt r)))) (sw_M z n sw_Ft T K)) (kx : ∀ E, res = .inr E → Q (.inr (sw_en E)) (sw_M z n sw_Ft T (sw_th K))) : sq_go G 72 0 [some (.ref (z + 0)), some (.int (Int32.ofInt p1)), some (.int (Int32.ofInt p2))] [] (sw_M z n sw_Ft T K) Q := by
  unfold w72 at h
  refine go_l qd72_0 rfl ?_
  refine go_l qd72_1 rfl ?_
  obtain ⟨r2, e1, h⟩ := sw_bind h
  refine ga_kv (a := 0) (as := [.int (Int32.ofInt p1)]) (rest := []) qd72_2 qk72_59 (sw_sl hn (by decide)) rfl rfl rfl (Nat.le_of_ble_eq_true rfl) (Nat.le_of_ble_eq_true rfl) rfl (A90 hn e1 (fun r3 g5 => ?_) (fun E4 g6 => ?_))
  · refine sw_bk0 ?_
    replace h := sw_elL g5 h
    refine go_l qd72_5 rfl ?_
    obtain ⟨_u, e7, h⟩ := sw_bind h
    by_cases hb8 : p2 < 0
    · replace h := sw_ifY hb8 h
      refine ga_zltY (t := 15) qd72_6 e7 hb8 rfl ?_
      exact ga_th qt72_15 (Nat.le_of_ble_eq_true rfl) (kx _ (sw_sj h).symm)
    · replace h := sw_ifN hb8 h
      refine ga_zltN (t := 15) qd72_6 e7 hb8 rfl ?_
      refine go_l qd72_9 rfl ?_
      refine ga_k8 qd72_10 rfl ?_
      obtain ⟨_u, e9, h⟩ := sw_bind h
      by_cases hb10 : p2 < 10
      · replace h := sw_ifY hb10 h
        refine ga_cltY (t := 25) qd72_12 e9 hb10 rfl ?_
        refine go_l qd72_25 rfl ?_
        refine ga_gf (v := .ref (z + 1)) qd72_26 qc72 qf5_10 (sw_sl hn (by decide)) rfl rfl ?_
        refine go_l qd72_29 rfl ?_
        refine go_l qd72_30 rfl ?_
        obtain ⟨r12, e11, h⟩ := sw_bind h
        refine ga_kv (a := 1) (as := [.int (Int32.ofInt p1), .int (Int32.ofInt p2)]) (rest := []) qd72_31 qk72_157 (sw_sl hn (by decide)) rfl rfl rfl (Nat.le_of_ble_eq_true rfl) (Nat.le_of_ble_eq_true rfl) rfl (A42 hn (by decide) e11 (sw_bkv ?_))
        exact ga_ri qd72_34 qr72 (kk _ (sw_sj h).symm)
      · replace h := sw_ifN hb10 h
        refine ga_cltN (t := 25) qd72_12 e9 hb10 rfl ?_
        exact ga_th qt72_15 (Nat.le_of_ble_eq_true rfl) (kx _ (sw_sj h).symm)
  · replace h := sw_elR g6 h
    exact sw_thn qn72 (kx _ (sw_sj h).symm)
theorem qk73_59 : sw_ck 73 59 90 0 1 5 2 = true := by decide +kernel
theorem qt73_9 : sw_tq 73 9 0 = true := by decide +kernel
theorem qc73 : sq_c 73 = 5 := by decide +kernel
theorem qf5_162 : (sp_fd sp_flT 5 162).or (sp_fd sp_fnT 5 162) = some (3, 13) := by decide +kernel
theorem qk73_166 : sw_ck 73 166 19 0 2 2 3 = true := by decide +kernel
theorem qr73 : sq_ret 73 = some .int := by decide +kernel
theorem qn73 : sw_nh 73 = true := by decide +kernel
-- 73: SewingPiles.pile(II)I
def w73 (T : sw_T) (p1 : Int) (p2 : Int) : Option ((Int) ⊕ Nat) :=
  (w90 T p1).bind fun r2 =>
  sw_el r2 (fun r3 =>
    (sw_r1 p2).bind fun _u =>
    if p2 < 0 then
      some (.inr 0)
    else
      (w19 1 T p1 p2).bind fun r10 =>
      some (.inl (r10))
  ) (fun E4 =>
  some (.inr E4))
theorem A73 {G : sp_G} {z n : Nat} (hn : 228 ≤ n) {T : sw_T} {K : sw_K} {p1 : Int} {p2 : Int} {res : (Int) ⊕ Nat} {Q : sp_R → sp_M → Prop} (h : w73 T p1 p2 = some res) (kk : ∀ r, res = .inl r → Q (.inl (some (.int (Int32.ofInt r)))) (sw_M z n sw_Ft T K)) (kx : ∀ E, res = .inr E → Q (.inr (sw_en E)) (sw_M z n sw_Ft T (sw_th K))) : sq_go G 73 0 [some (.ref (z + 0)), some (.int (Int32.ofInt p1)), some (.int (Int32.ofInt p2))] [] (sw_M z n sw_Ft T K) Q := by
  unfold w73 at h
  refine go_l qd73_0 rfl ?_
  refine go_l qd73_1 rfl ?_
  obtain ⟨r2, e1, h⟩ := sw_bind h
  refine ga_kv (a := 0) (as := [.int (Int32.ofInt p1)]) (rest := []) qd73_2 qk73_59 (sw_sl hn (by decide)) rfl rfl rfl (Nat.le_of_ble_eq_true rfl) (Nat.le_of_ble_eq_true rfl) rfl (A90 hn e1 (fun r3 g5 => ?_) (fun E4 g6 => ?_))
  · refine sw_bk0 ?_
    replace h := sw_elL g5 h
    refine go_l qd73_5 rfl ?_
    obtain ⟨_u, e7, h⟩ := sw_bind h
    by_cases hb8 : p2 < 0
    · replace h := sw_ifY hb8 h
      refine ga_zgeY (t := 19) qd73_6 e7 hb8 rfl ?_
      exact ga_th qt73_9 (Nat.le_of_ble_eq_true rfl) (kx _ (sw_sj h).symm)
    · replace h := sw_ifN hb8 h
      refine ga_zgeN (t := 19) qd73_6 e7 hb8 rfl ?_
      refine go_l qd73_19 rfl ?_
      refine ga_gf (v := .ref (z + 1)) qd73_20 qc73 qf5_10 (sw_sl hn (by decide)) rfl rfl ?_
      refine ga_gf (v := .ref (z + 11)) qd73_23 qc73 qf5_162 (sw_sl hn (by decide)) rfl rfl ?_
      refine go_l qd73_26 rfl ?_
      refine go_l qd73_27 rfl ?_
      obtain ⟨r10, e9, h⟩ := sw_bind h
      refine ga_kv (a := 11) (as := [.int (Int32.ofInt p1), .int (Int32.ofInt p2)]) (rest := []) qd73_28 qk73_166 (sw_sl hn (by decide)) rfl rfl rfl (Nat.le_of_ble_eq_true rfl) (Nat.le_of_ble_eq_true rfl) rfl (A19 hn (by decide) e9 (sw_bkv ?_))
      exact ga_ri qd73_31 qr73 (kk _ (sw_sj h).symm)
  · replace h := sw_elR g6 h
    exact sw_thn qn73 (kx _ (sw_sj h).symm)
theorem qt74_18 : sw_tq 74 18 2 = true := by decide +kernel
theorem qc74 : sq_c 74 = 5 := by decide +kernel
theorem qf5_171 : (sp_fd sp_flT 5 171).or (sp_fd sp_fnT 5 171) = some (3, 14) := by decide +kernel
theorem qf5_175 : (sp_fd sp_flT 5 175).or (sp_fd sp_fnT 5 175) = some (4, 0) := by decide +kernel
theorem qt74_37 : sw_tq 74 37 0 = true := by decide +kernel
theorem qk74_187 : sw_ck 74 187 56 0 2 4 3 = true := by decide +kernel
theorem qr74 : sq_ret 74 = some .int := by decide +kernel
-- 74: SewingPiles.shirt(II)I
def w74 (T : sw_T) (p1 : Int) (p2 : Int) : Option ((Int) ⊕ Nat) :=
  (sw_r1 p1).bind fun _u =>
  if p1 < 0 then
    some (.inr 2)
  else
    (sw_r2 p1 (T 21 0)).bind fun _u =>
    if p1 < (T 21 0) then
      (sw_r1 p2).bind fun _u =>
      if p2 < 0 then
        some (.inr 0)
      else
        (sw_r2 p2 3).bind fun _u =>
        if p2 < 3 then
          (w56 1 T p1 p2).bind fun r10 =>
          some (.inl (r10))
        else
          some (.inr 0)
    else
      some (.inr 2)
theorem A74 {G : sp_G} {z n : Nat} (hn : 228 ≤ n) {T : sw_T} {K : sw_K} {p1 : Int} {p2 : Int} {res : (Int) ⊕ Nat} {Q : sp_R → sp_M → Prop} (h : w74 T p1 p2 = some res) (kk : ∀ r, res = .inl r → Q (.inl (some (.int (Int32.ofInt r)))) (sw_M z n sw_Ft T K)) (kx : ∀ E, res = .inr E → Q (.inr (sw_en E)) (sw_M z n sw_Ft T (sw_th K))) : sq_go G 74 0 [some (.ref (z + 0)), some (.int (Int32.ofInt p1)), some (.int (Int32.ofInt p2))] [] (sw_M z n sw_Ft T K) Q := by
  unfold w74 at h
  refine go_l qd74_0 rfl ?_
  obtain ⟨_u, e1, h⟩ := sw_bind h
  by_cases hb2 : p1 < 0
  · replace h := sw_ifY hb2 h
    refine ga_zltY (t := 18) qd74_1 e1 hb2 rfl ?_
    exact ga_th qt74_18 (Nat.le_of_ble_eq_true rfl) (kx _ (sw_sj h).symm)
  · replace h := sw_ifN hb2 h
    refine ga_zltN (t := 18) qd74_1 e1 hb2 rfl ?_
    refine go_l qd74_4 rfl ?_
    refine go_l qd74_5 rfl ?_
    refine ga_gf (v := .ref (z + 1)) qd74_6 qc74 qf5_10 (sw_sl hn (by decide)) rfl rfl ?_
    refine ga_gf (v := .ref (z + 21)) qd74_9 qc74 qf5_171 (sw_sl hn (by decide)) rfl rfl ?_
    refine ga_gf (v := .int (Int32.ofInt (T 21 0))) qd74_12 qc74 qf5_175 (sw_sl hn (by decide)) rfl rfl ?_
    obtain ⟨_u, e3, h⟩ := sw_bind h
    by_cases hb4 : p1 < (T 21 0)
    · replace h := sw_ifY hb4 h
      refine ga_cltY (t := 28) qd74_15 e3 hb4 rfl ?_
      refine go_l qd74_28 rfl ?_
      obtain ⟨_u, e5, h⟩ := sw_bind h
      by_cases hb6 : p2 < 0
      · replace h := sw_ifY hb6 h
        refine ga_zltY (t := 37) qd74_29 e5 hb6 rfl ?_
        exact ga_th qt74_37 (Nat.le_of_ble_eq_true rfl) (kx _ (sw_sj h).symm)
      · replace h := sw_ifN hb6 h
        refine ga_zltN (t := 37) qd74_29 e5 hb6 rfl ?_
        refine go_l qd74_32 rfl ?_
        refine go_s qd74_33 rfl ?_
        obtain ⟨_u, e7, h⟩ := sw_bind h
        by_cases hb8 : p2 < 3
        · replace h := sw_ifY hb8 h
          refine ga_cltY (t := 47) qd74_34 e7 hb8 rfl ?_
          refine go_l qd74_47 rfl ?_
          refine ga_gf (v := .ref (z + 1)) qd74_48 qc74 qf5_10 (sw_sl hn (by decide)) rfl rfl ?_
          refine ga_gf (v := .ref (z + 21)) qd74_51 qc74 qf5_171 (sw_sl hn (by decide)) rfl rfl ?_
          refine go_l qd74_54 rfl ?_
          refine go_l qd74_55 rfl ?_
          obtain ⟨r10, e9, h⟩ := sw_bind h
          refine ga_kv (a := 21) (as := [.int (Int32.ofInt p1), .int (Int32.ofInt p2)]) (rest := []) qd74_56 qk74_187 (sw_sl hn (by decide)) rfl rfl rfl (Nat.le_of_ble_eq_true rfl) (Nat.le_of_ble_eq_true rfl) rfl (A56 hn (by decide) e9 (sw_bkv ?_))
          exact ga_ri qd74_59 qr74 (kk _ (sw_sj h).symm)
        · replace h := sw_ifN hb8 h
          refine ga_cltN (t := 47) qd74_34 e7 hb8 rfl ?_
          exact ga_th qt74_37 (Nat.le_of_ble_eq_true rfl) (kx _ (sw_sj h).symm)
    · replace h := sw_ifN hb4 h
      refine ga_cltN (t := 28) qd74_15 e3 hb4 rfl ?_
      exact ga_th qt74_18 (Nat.le_of_ble_eq_true rfl) (kx _ (sw_sj h).symm)
