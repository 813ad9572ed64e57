/-! ===== the law as a function over tables ===== -/
theorem qr68 : sq_ret 68 = some .int := by decide +kernel
-- 68: SewingPilesLaw.cell([II)I
def w200 (G : sp_G) (T : sw_T) (p1 : Int) : Option (Int) :=
  (sw_r2 p1 (G.2.1 : Int)).bind fun _u =>
  if p1 < (G.2.1 : Int) then
    (sw_ix G.2.1 p1).bind fun _u =>
    some ((sw_xs G p1))
  else
    some (((7919 * (p1 + 3)) * (p1 + 11)))
theorem A68 {G : sp_G} {z n : Nat} (hn : 221 ≤ n) (hG : sw_G G z) {T : sw_T} {K : sw_K} {p1 : Int} {res : Int} {Q : sp_R → sp_M → Prop} (h : w200 G T p1 = some res) (kk : Q (.inl (some (.int (Int32.ofInt res)))) (sw_M z n sw_Ft T K)) : sq_go G 68 0 [some (.ref G.1), some (.int (Int32.ofInt p1))] [] (sw_M z n sw_Ft T K) Q := by
  unfold w200 at h
  refine go_l qd68_0 rfl ?_
  refine go_l qd68_1 rfl ?_
  refine ga_alG qd68_2 hG.2.1 ?_
  obtain ⟨_u, e1, h⟩ := sw_bind h
  by_cases hb2 : p1 < (G.2.1 : Int)
  · replace h := sw_ifY hb2 h
    refine ga_cgeY (t := 12) qd68_3 e1 hb2 rfl ?_
    refine go_l qd68_6 rfl ?_
    refine go_l qd68_7 rfl ?_
    obtain ⟨_u, e3, h⟩ := sw_bind h
    refine ga_ldG qd68_8 hG.2.1 hG.1 e3 ?_
    refine ga_jp (t := 24) qd68_9 rfl ?_
    rw [← sw_sj h] at kk
    exact ga_ri qd68_24 qr68 kk
  · replace h := sw_ifN hb2 h
    refine ga_cgeN (t := 12) qd68_3 e1 hb2 rfl ?_
    refine ga_k16 qd68_12 rfl ?_
    refine go_l qd68_15 rfl ?_
    refine go_s qd68_16 rfl ?_
    refine ga_iadd qd68_17 ?_
    refine ga_imul qd68_18 ?_
    refine go_l qd68_19 rfl ?_
    refine ga_k8 qd68_20 rfl ?_
    refine ga_iadd qd68_22 ?_
    refine ga_imul qd68_23 ?_
    rw [← sw_sj h] at kk
    exact ga_ri qd68_24 qr68 kk
theorem qc69 : sq_c 69 = 7 := by decide +kernel
theorem qli7_7 : sp_fd sp_ciT 7 7 = some 2147483647 := by decide +kernel
theorem qr69 : sq_ret 69 = some .int := by decide +kernel
-- 69: SewingPilesLaw.low(II)I
def w201 (T : sw_T) (p0 : Int) (p1 : Int) : Option (Int) :=
  (sw_dv (p0 % 2147483648) p1).bind fun _u =>
  some (((p0 % 2147483648) % p1))
theorem A69 {G : sp_G} {z n : Nat} (hn : 221 ≤ n) {T : sw_T} {K : sw_K} {p0 : Int} {p1 : Int} {res : Int} {Q : sp_R → sp_M → Prop} (h : w201 T p0 p1 = some res) (kk : Q (.inl (some (.int (Int32.ofInt res)))) (sw_M z n sw_Ft T K)) : sq_go G 69 0 [some (.int (Int32.ofInt p0)), some (.int (Int32.ofInt p1))] [] (sw_M z n sw_Ft T K) Q := by
  unfold w201 at h
  refine go_l qd69_0 rfl ?_
  refine ga_k32 (u := 2147483647) qd69_1 qc69 qli7_7 rfl ?_
  refine ga_iand2147483647 qd69_3 ?_
  refine go_l qd69_4 rfl ?_
  obtain ⟨_u, e1, h⟩ := sw_bind h
  refine ga_irem qd69_5 e1 ?_
  rw [← sw_sj h] at kk
  exact ga_ri qd69_6 qr69 kk
theorem qc70 : sq_c 70 = 7 := by decide +kernel
theorem ql7_8 : sp_fd sp_clT 7 8 = some 3 := by decide +kernel
theorem ql7_10 : sp_fd sp_clT 7 10 = some 31 := by decide +kernel
theorem qk70_12 : sw_ck 70 12 59 0 1 5 2 = true := by decide +kernel
theorem qk70_18 : sw_ck 70 18 56 0 2 5 3 = true := by decide +kernel
theorem qk70_22 : sw_ck 70 22 57 0 2 5 3 = true := by decide +kernel
theorem qk70_25 : sw_ck 70 25 58 0 2 5 3 = true := by decide +kernel
theorem qk70_28 : sw_ck 70 28 60 0 1 5 2 = true := by decide +kernel
theorem qr70 : sq_ret 70 = some .long := by decide +kernel
-- 70: SewingPilesLaw.told(LSewingPiles;)J
def w202_6 (T : sw_T) : Nat → Int → Int → Option (Int)
  | 0, _, _ => none
  | m + 1, l1, l3 =>
    (sw_r2 l3 11).bind fun _u =>
    if l3 < 11 then
      (w75 T l3).bind fun r4 =>
      sw_el r4 (fun r5 =>
        (sw_r1 r5).bind fun _u =>
        w202_6 T m ((31 * l1) + r5) (l3 + 1)
      ) (fun E6 =>
      none)
    else
      some (l1)
theorem B70_6 {G : sp_G} {z n : Nat} (hn : 221 ≤ n) {T : sw_T} {K : sw_K} {res : Int} {Q : sp_R → sp_M → Prop} (kk : sq_go G 70 31 [some (.ref (z + 0)), some (.long (Int64.ofInt res)), none, none, none] [] (sw_M z n sw_Ft T K) Q) : ∀ (m : Nat) (l1 : Int) (l3 : Int), w202_6 T m l1 l3 = some res → sq_go G 70 6 [some (.ref (z + 0)), some (.long (Int64.ofInt l1)), none, some (.int (Int32.ofInt l3)), none] [] (sw_M z n sw_Ft T K) Q := by
  intro m
  induction m with
  | zero => intro l1 l3 h; cases h
  | succ m ih =>
    intro l1 l3 h
    rw [w202_6] at h
    refine go_l qd70_6 rfl ?_
    refine ga_k8 qd70_7 rfl ?_
    obtain ⟨_u, e1, h⟩ := sw_bind h
    by_cases hb2 : l3 < 11
    · replace h := sw_ifY hb2 h
      refine ga_cgeY (t := 31) qd70_9 e1 hb2 rfl ?_
      refine ga_k64 (u := 31) qd70_12 qc70 ql7_10 rfl ?_
      refine go_l qd70_15 rfl ?_
      refine ga_lmul qd70_16 ?_
      refine go_l qd70_17 rfl ?_
      refine go_l qd70_18 rfl ?_
      obtain ⟨r4, e3, h⟩ := sw_bind h
      refine ga_kv (a := 0) (as := [.int (Int32.ofInt l3)]) (rest := [.long (Int64.ofInt (31 * l1))]) qd70_19 qk70_12 (sw_sl hn (by decide)) rfl rfl rfl (Nat.le_of_ble_eq_true rfl) (Nat.le_of_ble_eq_true rfl) rfl (A59 hn e3 (fun r5 g7 => ?_) (fun E6 g8 => ?_))
      · refine sw_bkv ?_
        replace h := sw_elL g7 h
        obtain ⟨_u, e9, h⟩ := sw_bind h
        refine ga_i2l qd70_22 e9 ?_
        refine ga_ladd qd70_23 ?_
        refine go_l (L' := [some (.ref (z + 0)), some (.long (Int64.ofInt ((31 * l1) + r5))), none, some (.int (Int32.ofInt l3)), none]) (st' := []) qd70_24 rfl ?_
        refine ga_ii (L' := [some (.ref (z + 0)), some (.long (Int64.ofInt ((31 * l1) + r5))), none, some (.int (Int32.ofInt (l3 + 1))), none]) qd70_25 rfl rfl ?_
        refine ga_jp (t := 6) qd70_28 rfl ?_
        exact sq_weak (L := [some (.ref (z + 0)), some (.long (Int64.ofInt ((31 * l1) + r5))), none, some (.int (Int32.ofInt (l3 + 1))), none]) ⟨rfl, rfl, rfl, trivial⟩ (ih _ _ h)
      · replace h := sw_elR g8 h
        cases h
    · replace h := sw_ifN hb2 h
      refine ga_cgeN (t := 31) qd70_9 e1 hb2 rfl ?_
      rw [← sw_sj h] at kk
      exact sq_weak (L := [some (.ref (z + 0)), some (.long (Int64.ofInt l1)), none, none, none]) ⟨rfl, rfl, trivial⟩ kk
def w202_45 (T : sw_T) (l3 : Int) : Nat → Int → Int → Option (Int)
  | 0, _, _ => none
  | m + 1, l1, l4 =>
    (sw_r2 l4 10).bind fun _u =>
    if l4 < 10 then
      (w72 T l3 l4).bind fun r23 =>
      sw_el r23 (fun r24 =>
        (sw_r1 r24).bind fun _u =>
        w202_45 T l3 m ((31 * l1) + r24) (l4 + 1)
      ) (fun E25 =>
      none)
    else
      some (l1)
theorem B70_45 {G : sp_G} {z n : Nat} (hn : 221 ≤ n) {T : sw_T} {l3 : Int} {K : sw_K} {res : Int} {Q : sp_R → sp_M → Prop} (kk : sq_go G 70 73 [some (.ref (z + 0)), some (.long (Int64.ofInt res)), none, some (.int (Int32.ofInt l3)), none] [] (sw_M z n sw_Ft T K) Q) : ∀ (m : Nat) (l1 : Int) (l4 : Int), w202_45 T l3 m l1 l4 = some res → sq_go G 70 45 [some (.ref (z + 0)), some (.long (Int64.ofInt l1)), none, some (.int (Int32.ofInt l3)), some (.int (Int32.ofInt l4))] [] (sw_M z n sw_Ft T K) Q := by
  intro m
  induction m with
  | zero => intro l1 l4 h; cases h
  | succ m ih =>
    intro l1 l4 h
    rw [w202_45] at h
    refine go_l qd70_45 rfl ?_
    refine ga_k8 qd70_47 rfl ?_
    obtain ⟨_u, e20, h⟩ := sw_bind h
    by_cases hb21 : l4 < 10
    · replace h := sw_ifY hb21 h
      refine ga_cgeY (t := 73) qd70_49 e20 hb21 rfl ?_
      refine ga_k64 (u := 31) qd70_52 qc70 ql7_10 rfl ?_
      refine go_l qd70_55 rfl ?_
      refine ga_lmul qd70_56 ?_
      refine go_l qd70_57 rfl ?_
      refine go_l qd70_58 rfl ?_
      refine go_l qd70_59 rfl ?_
      obtain ⟨r23, e22, h⟩ := sw_bind h
      refine ga_kv (a := 0) (as := [.int (Int32.ofInt l3), .int (Int32.ofInt l4)]) (rest := [.long (Int64.ofInt (31 * l1))]) qd70_61 qk70_18 (sw_sl hn (by decide)) rfl rfl rfl (Nat.le_of_ble_eq_true rfl) (Nat.le_of_ble_eq_true rfl) rfl (A56 hn e22 (fun r24 g26 => ?_) (fun E25 g27 => ?_))
      · refine sw_bkv ?_
        replace h := sw_elL g26 h
        obtain ⟨_u, e28, h⟩ := sw_bind h
        refine ga_i2l qd70_64 e28 ?_
        refine ga_ladd qd70_65 ?_
        refine go_l (L' := [some (.ref (z + 0)), some (.long (Int64.ofInt ((31 * l1) + r24))), none, some (.int (Int32.ofInt l3)), some (.int (Int32.ofInt l4))]) (st' := []) qd70_66 rfl ?_
        refine ga_ii (L' := [some (.ref (z + 0)), some (.long (Int64.ofInt ((31 * l1) + r24))), none, some (.int (Int32.ofInt l3)), some (.int (Int32.ofInt (l4 + 1)))]) qd70_67 rfl rfl ?_
        refine ga_jp (t := 45) qd70_70 rfl ?_
        exact sq_weak (L := [some (.ref (z + 0)), some (.long (Int64.ofInt ((31 * l1) + r24))), none, some (.int (Int32.ofInt l3)), some (.int (Int32.ofInt (l4 + 1)))]) ⟨rfl, rfl, rfl, rfl, trivial⟩ (ih _ _ h)
      · replace h := sw_elR g27 h
        cases h
    · replace h := sw_ifN hb21 h
      refine ga_cgeN (t := 73) qd70_49 e20 hb21 rfl ?_
      rw [← sw_sj h] at kk
      exact sq_weak (L := [some (.ref (z + 0)), some (.long (Int64.ofInt l1)), none, some (.int (Int32.ofInt l3)), none]) ⟨rfl, rfl, rfl, trivial⟩ kk
def w202_76 (T : sw_T) (l3 : Int) : Nat → Int → Int → Option (Int)
  | 0, _, _ => none
  | m + 1, l1, l4 =>
    (w72 T l3 1).bind fun r32 =>
    sw_el r32 (fun r33 =>
      (sw_r2 l4 r33).bind fun _u =>
      if l4 < r33 then
        (w73 T l3 l4).bind fun r40 =>
        sw_el r40 (fun r41 =>
          (sw_r1 r41).bind fun _u =>
          w202_76 T l3 m ((31 * l1) + r41) (l4 + 1)
        ) (fun E42 =>
        none)
      else
        some (l1)
    ) (fun E34 =>
    none)
theorem B70_76 {G : sp_G} {z n : Nat} (hn : 221 ≤ n) {T : sw_T} {l3 : Int} {K : sw_K} {res : Int} {Q : sp_R → sp_M → Prop} (kk : sq_go G 70 108 [some (.ref (z + 0)), some (.long (Int64.ofInt res)), none, some (.int (Int32.ofInt l3)), none] [] (sw_M z n sw_Ft T K) Q) : ∀ (m : Nat) (l1 : Int) (l4 : Int), w202_76 T l3 m l1 l4 = some res → sq_go G 70 76 [some (.ref (z + 0)), some (.long (Int64.ofInt l1)), none, some (.int (Int32.ofInt l3)), some (.int (Int32.ofInt l4))] [] (sw_M z n sw_Ft T K) Q := by
  intro m
  induction m with
  | zero => intro l1 l4 h; cases h
  | succ m ih =>
    intro l1 l4 h
    rw [w202_76] at h
    refine go_l qd70_76 rfl ?_
    refine go_l qd70_78 rfl ?_
    refine go_l qd70_79 rfl ?_
    refine go_s qd70_80 rfl ?_
    obtain ⟨r32, e31, h⟩ := sw_bind h
    refine ga_kv (a := 0) (as := [.int (Int32.ofInt l3), .int (Int32.ofInt 1)]) (rest := [.int (Int32.ofInt l4)]) qd70_81 qk70_18 (sw_sl hn (by decide)) rfl rfl rfl (Nat.le_of_ble_eq_true rfl) (Nat.le_of_ble_eq_true rfl) rfl (A56 hn e31 (fun r33 g35 => ?_) (fun E34 g36 => ?_))
    · refine sw_bkv ?_
      replace h := sw_elL g35 h
      obtain ⟨_u, e37, h⟩ := sw_bind h
      by_cases hb38 : l4 < r33
      · replace h := sw_ifY hb38 h
        refine ga_cgeY (t := 108) qd70_84 e37 hb38 rfl ?_
        refine ga_k64 (u := 31) qd70_87 qc70 ql7_10 rfl ?_
        refine go_l qd70_90 rfl ?_
        refine ga_lmul qd70_91 ?_
        refine go_l qd70_92 rfl ?_
        refine go_l qd70_93 rfl ?_
        refine go_l qd70_94 rfl ?_
        obtain ⟨r40, e39, h⟩ := sw_bind h
        refine ga_kv (a := 0) (as := [.int (Int32.ofInt l3), .int (Int32.ofInt l4)]) (rest := [.long (Int64.ofInt (31 * l1))]) qd70_96 qk70_22 (sw_sl hn (by decide)) rfl rfl rfl (Nat.le_of_ble_eq_true rfl) (Nat.le_of_ble_eq_true rfl) rfl (A57 hn e39 (fun r41 g43 => ?_) (fun E42 g44 => ?_))
        · refine sw_bkv ?_
          replace h := sw_elL g43 h
          obtain ⟨_u, e45, h⟩ := sw_bind h
          refine ga_i2l qd70_99 e45 ?_
          refine ga_ladd qd70_100 ?_
          refine go_l (L' := [some (.ref (z + 0)), some (.long (Int64.ofInt ((31 * l1) + r41))), none, some (.int (Int32.ofInt l3)), some (.int (Int32.ofInt l4))]) (st' := []) qd70_101 rfl ?_
          refine ga_ii (L' := [some (.ref (z + 0)), some (.long (Int64.ofInt ((31 * l1) + r41))), none, some (.int (Int32.ofInt l3)), some (.int (Int32.ofInt (l4 + 1)))]) qd70_102 rfl rfl ?_
          refine ga_jp (t := 76) qd70_105 rfl ?_
          exact sq_weak (L := [some (.ref (z + 0)), some (.long (Int64.ofInt ((31 * l1) + r41))), none, some (.int (Int32.ofInt l3)), some (.int (Int32.ofInt (l4 + 1)))]) ⟨rfl, rfl, rfl, rfl, trivial⟩ (ih _ _ h)
        · replace h := sw_elR g44 h
          cases h
      · replace h := sw_ifN hb38 h
        refine ga_cgeN (t := 108) qd70_84 e37 hb38 rfl ?_
        rw [← sw_sj h] at kk
        exact sq_weak (L := [some (.ref (z + 0)), some (.long (Int64.ofInt l1)), none, some (.int (Int32.ofInt l3)), none]) ⟨rfl, rfl, rfl, trivial⟩ kk
    · replace h := sw_elR g36 h
      cases h
def w202_33 (T : sw_T) : Nat → Int → Int → Option (Int)
  | 0, _, _ => none
  | m + 1, l1, l3 =>
    (w75 T 1).bind fun r13 =>
    sw_el r13 (fun r14 =>
      (sw_r2 l3 r14).bind fun _u =>
      if l3 < r14 then
        (w202_45 T l3 sw_N l1 0).bind fun x29 =>
        (w202_76 T l3 sw_N x29 0).bind fun x46 =>
        w202_33 T m x46 (l3 + 1)
      else
        some (l1)
    ) (fun E15 =>
    none)
theorem B70_33 {G : sp_G} {z n : Nat} (hn : 221 ≤ n) {T : sw_T} {K : sw_K} {res : Int} {Q : sp_R → sp_M → Prop} (kk : sq_go G 70 114 [some (.ref (z + 0)), some (.long (Int64.ofInt res)), none, none, none] [] (sw_M z n sw_Ft T K) Q) : ∀ (m : Nat) (l1 : Int) (l3 : Int), w202_33 T m l1 l3 = some res → sq_go G 70 33 [some (.ref (z + 0)), some (.long (Int64.ofInt l1)), none, some (.int (Int32.ofInt l3)), none] [] (sw_M z n sw_Ft T K) Q := by
  intro m
  induction m with
  | zero => intro l1 l3 h; cases h
  | succ m ih =>
    intro l1 l3 h
    rw [w202_33] at h
    refine go_l qd70_33 rfl ?_
    refine go_l qd70_34 rfl ?_
    refine go_s qd70_35 rfl ?_
    obtain ⟨r13, e12, h⟩ := sw_bind h
    refine ga_kv (a := 0) (as := [.int (Int32.ofInt 1)]) (rest := [.int (Int32.ofInt l3)]) qd70_36 qk70_12 (sw_sl hn (by decide)) rfl rfl rfl (Nat.le_of_ble_eq_true rfl) (Nat.le_of_ble_eq_true rfl) rfl (A59 hn e12 (fun r14 g16 => ?_) (fun E15 g17 => ?_))
    · refine sw_bkv ?_
      replace h := sw_elL g16 h
      obtain ⟨_u, e18, h⟩ := sw_bind h
      by_cases hb19 : l3 < r14
      · replace h := sw_ifY hb19 h
        refine ga_cgeY (t := 114) qd70_39 e18 hb19 rfl ?_
        refine go_s qd70_42 rfl ?_
        refine go_l (L' := [some (.ref (z + 0)), some (.long (Int64.ofInt l1)), none, some (.int (Int32.ofInt l3)), some (.int (Int32.ofInt 0))]) (st' := []) qd70_43 rfl ?_
        obtain ⟨x29, e30, h⟩ := sw_bind h
        refine sq_weak (L := [some (.ref (z + 0)), some (.long (Int64.ofInt l1)), none, some (.int (Int32.ofInt l3)), some (.int (Int32.ofInt 0))]) ⟨rfl, rfl, rfl, rfl, trivial⟩ (B70_45 hn (res := x29) ?_ _ _ _ e30)
        refine go_s qd70_73 rfl ?_
        refine go_l (L' := [some (.ref (z + 0)), some (.long (Int64.ofInt x29)), none, some (.int (Int32.ofInt l3)), some (.int (Int32.ofInt 0))]) (st' := []) qd70_74 rfl ?_
        obtain ⟨x46, e47, h⟩ := sw_bind h
        refine sq_weak (L := [some (.ref (z + 0)), some (.long (Int64.ofInt x29)), none, some (.int (Int32.ofInt l3)), some (.int (Int32.ofInt 0))]) ⟨rfl, rfl, rfl, rfl, trivial⟩ (B70_76 hn (res := x46) ?_ _ _ _ e47)
        refine ga_ii (L' := [some (.ref (z + 0)), some (.long (Int64.ofInt x46)), none, some (.int (Int32.ofInt (l3 + 1))), none]) qd70_108 rfl rfl ?_
        refine ga_jp (t := 33) qd70_111 rfl ?_
        exact sq_weak (L := [some (.ref (z + 0)), some (.long (Int64.ofInt x46)), none, some (.int (Int32.ofInt (l3 + 1))), none]) ⟨rfl, rfl, rfl, trivial⟩ (ih _ _ h)
      · replace h := sw_ifN hb19 h
        refine ga_cgeN (t := 114) qd70_39 e18 hb19 rfl ?_
        rw [← sw_sj h] at kk
        exact sq_weak (L := [some (.ref (z + 0)), some (.long (Int64.ofInt l1)), none, none, none]) ⟨rfl, rfl, trivial⟩ kk
    · replace h := sw_elR g17 h
      cases h
def w202_128 (T : sw_T) (l3 : Int) : Nat → Int → Int → Option (Int)
  | 0, _, _ => none
  | m + 1, l1, l4 =>
    (sw_r2 l4 3).bind fun _u =>
    if l4 < 3 then
      (w74 T l3 l4).bind fun r61 =>
      sw_el r61 (fun r62 =>
        (sw_r1 r62).bind fun _u =>
        w202_128 T l3 m ((31 * l1) + r62) (l4 + 1)
      ) (fun E63 =>
      none)
    else
      some (l1)
theorem B70_128 {G : sp_G} {z n : Nat} (hn : 221 ≤ n) {T : sw_T} {l3 : Int} {K : sw_K} {res : Int} {Q : sp_R → sp_M → Prop} (kk : sq_go G 70 155 [some (.ref (z + 0)), some (.long (Int64.ofInt res)), none, some (.int (Int32.ofInt l3)), none] [] (sw_M z n sw_Ft T K) Q) : ∀ (m : Nat) (l1 : Int) (l4 : Int), w202_128 T l3 m l1 l4 = some res → sq_go G 70 128 [some (.ref (z + 0)), some (.long (Int64.ofInt l1)), none, some (.int (Int32.ofInt l3)), some (.int (Int32.ofInt l4))] [] (sw_M z n sw_Ft T K) Q := by
  intro m
  induction m with
  | zero => intro l1 l4 h; cases h
  | succ m ih =>
    intro l1 l4 h
    rw [w202_128] at h
    refine go_l qd70_128 rfl ?_
    refine go_s qd70_130 rfl ?_
    obtain ⟨_u, e58, h⟩ := sw_bind h
    by_cases hb59 : l4 < 3
    · replace h := sw_ifY hb59 h
      refine ga_cgeY (t := 155) qd70_131 e58 hb59 rfl ?_
      refine ga_k64 (u := 31) qd70_134 qc70 ql7_10 rfl ?_
      refine go_l qd70_137 rfl ?_
      refine ga_lmul qd70_138 ?_
      refine go_l qd70_139 rfl ?_
      refine go_l qd70_140 rfl ?_
      refine go_l qd70_141 rfl ?_
      obtain ⟨r61, e60, h⟩ := sw_bind h
      refine ga_kv (a := 0) (as := [.int (Int32.ofInt l3), .int (Int32.ofInt l4)]) (rest := [.long (Int64.ofInt (31 * l1))]) qd70_143 qk70_25 (sw_sl hn (by decide)) rfl rfl rfl (Nat.le_of_ble_eq_true rfl) (Nat.le_of_ble_eq_true rfl) rfl (A58 hn e60 (fun r62 g64 => ?_) (fun E63 g65 => ?_))
      · refine sw_bkv ?_
        replace h := sw_elL g64 h
        obtain ⟨_u, e66, h⟩ := sw_bind h
        refine ga_i2l qd70_146 e66 ?_
        refine ga_ladd qd70_147 ?_
        refine go_l (L' := [some (.ref (z + 0)), some (.long (Int64.ofInt ((31 * l1) + r62))), none, some (.int (Int32.ofInt l3)), some (.int (Int32.ofInt l4))]) (st' := []) qd70_148 rfl ?_
        refine ga_ii (L' := [some (.ref (z + 0)), some (.long (Int64.ofInt ((31 * l1) + r62))), none, some (.int (Int32.ofInt l3)), some (.int (Int32.ofInt (l4 + 1)))]) qd70_149 rfl rfl ?_
        refine ga_jp (t := 128) qd70_152 rfl ?_
        exact sq_weak (L := [some (.ref (z + 0)), some (.long (Int64.ofInt ((31 * l1) + r62))), none, some (.int (Int32.ofInt l3)), some (.int (Int32.ofInt (l4 + 1)))]) ⟨rfl, rfl, rfl, rfl, trivial⟩ (ih _ _ h)
      · replace h := sw_elR g65 h
        cases h
    · replace h := sw_ifN hb59 h
      refine ga_cgeN (t := 155) qd70_131 e58 hb59 rfl ?_
      rw [← sw_sj h] at kk
      exact sq_weak (L := [some (.ref (z + 0)), some (.long (Int64.ofInt l1)), none, some (.int (Int32.ofInt l3)), none]) ⟨rfl, rfl, rfl, trivial⟩ kk
def w202_116 (T : sw_T) : Nat → Int → Int → Option (Int)
  | 0, _, _ => none
  | m + 1, l1, l3 =>
    (w75 T 2).bind fun r51 =>
    sw_el r51 (fun r52 =>
      (sw_r2 l3 r52).bind fun _u =>
      if l3 < r52 then
        (w202_128 T l3 sw_N l1 0).bind fun x67 =>
        w202_116 T m x67 (l3 + 1)
      else
        some (l1)
    ) (fun E53 =>
    none)
theorem B70_116 {G : sp_G} {z n : Nat} (hn : 221 ≤ n) {T : sw_T} {K : sw_K} {res : Int} {Q : sp_R → sp_M → Prop} (kk : sq_go G 70 161 [some (.ref (z + 0)), some (.long (Int64.ofInt res)), none, none, none] [] (sw_M z n sw_Ft T K) Q) : ∀ (m : Nat) (l1 : Int) (l3 : Int), w202_116 T m l1 l3 = some res → sq_go G 70 116 [some (.ref (z + 0)), some (.long (Int64.ofInt l1)), none, some (.int (Int32.ofInt l3)), none] [] (sw_M z n sw_Ft T K) Q := by
  intro m
  induction m with
  | zero => intro l1 l3 h; cases h
  | succ m ih =>
    intro l1 l3 h
    rw [w202_116] at h
    refine go_l qd70_116 rfl ?_
    refine go_l qd70_117 rfl ?_
    refine go_s qd70_118 rfl ?_
    obtain ⟨r51, e50, h⟩ := sw_bind h
    refine ga_kv (a := 0) (as := [.int (Int32.ofInt 2)]) (rest := [.int (Int32.ofInt l3)]) qd70_119 qk70_12 (sw_sl hn (by decide)) rfl rfl rfl (Nat.le_of_ble_eq_true rfl) (Nat.le_of_ble_eq_true rfl) rfl (A59 hn e50 (fun r52 g54 => ?_) (fun E53 g55 => ?_))
    · refine sw_bkv ?_
      replace h := sw_elL g54 h
      obtain ⟨_u, e56, h⟩ := sw_bind h
      by_cases hb57 : l3 < r52
      · replace h := sw_ifY hb57 h
        refine ga_cgeY (t := 161) qd70_122 e56 hb57 rfl ?_
        refine go_s qd70_125 rfl ?_
        refine go_l (L' := [some (.ref (z + 0)), some (.long (Int64.ofInt l1)), none, some (.int (Int32.ofInt l3)), some (.int (Int32.ofInt 0))]) (st' := []) qd70_126 rfl ?_
        obtain ⟨x67, e68, h⟩ := sw_bind h
        refine sq_weak (L := [some (.ref (z + 0)), some (.long (Int64.ofInt l1)), none, some (.int (Int32.ofInt l3)), some (.int (Int32.ofInt 0))]) ⟨rfl, rfl, rfl, rfl, trivial⟩ (B70_128 hn (res := x67) ?_ _ _ _ e68)
        refine ga_ii (L' := [some (.ref (z + 0)), some (.long (Int64.ofInt x67)), none, some (.int (Int32.ofInt (l3 + 1))), none]) qd70_155 rfl rfl ?_
        refine ga_jp (t := 116) qd70_158 rfl ?_
        exact sq_weak (L := [some (.ref (z + 0)), some (.long (Int64.ofInt x67)), none, some (.int (Int32.ofInt (l3 + 1))), none]) ⟨rfl, rfl, rfl, trivial⟩ (ih _ _ h)
      · replace h := sw_ifN hb57 h
        refine ga_cgeN (t := 161) qd70_122 e56 hb57 rfl ?_
        rw [← sw_sj h] at kk
        exact sq_weak (L := [some (.ref (z + 0)), some (.long (Int64.ofInt l1)), none, none, none]) ⟨rfl, rfl, trivial⟩ kk
    · replace h := sw_elR g55 h
      cases h
def w202 (T : sw_T) : Option (Int) :=
  (w202_6 T sw_N 3 0).bind fun x10 =>
  (w202_33 T sw_N x10 0).bind fun x48 =>
  (w202_116 T sw_N x48 0).bind fun x69 =>
  (w76 T 0).bind fun r72 =>
  sw_el r72 (fun r73 =>
    (sw_r1 r73).bind fun _u =>
    (w76 T 1).bind fun r79 =>
    sw_el r79 (fun r80 =>
      (sw_r1 r80).bind fun _u =>
      (w76 T 2).bind fun r86 =>
      sw_el r86 (fun r87 =>
        (sw_r1 r87).bind fun _u =>
        some (((31 * ((31 * ((31 * x69) + r73)) + r80)) + r87))
      ) (fun E88 =>
      none)
    ) (fun E81 =>
    none)
  ) (fun E74 =>
  none)
theorem A70 {G : sp_G} {z n : Nat} (hn : 221 ≤ n) {T : sw_T} {K : sw_K} {res : Int} {Q : sp_R → sp_M → Prop} (h : w202 T = some res) (kk : Q (.inl (some (.long (Int64.ofInt res)))) (sw_M z n sw_Ft T K)) : sq_go G 70 0 [some (.ref (z + 0)), none, none, none, none] [] (sw_M z n sw_Ft T K) Q := by
  unfold w202 at h
  refine ga_k64 (u := 3) qd70_0 qc70 ql7_8 rfl ?_
  refine go_l (L' := [some (.ref (z + 0)), some (.long (Int64.ofInt 3)), none, none, none]) (st' := []) qd70_3 rfl ?_
  refine go_s qd70_4 rfl ?_
  refine go_l (L' := [some (.ref (z + 0)), some (.long (Int64.ofInt 3)), none, some (.int (Int32.ofInt 0)), none]) (st' := []) qd70_5 rfl ?_
  obtain ⟨x10, e11, h⟩ := sw_bind h
  refine sq_weak (L := [some (.ref (z + 0)), some (.long (Int64.ofInt 3)), none, some (.int (Int32.ofInt 0)), none]) ⟨rfl, rfl, rfl, trivial⟩ (B70_6 hn (res := x10) ?_ _ _ _ e11)
  refine go_s qd70_31 rfl ?_
  refine go_l (L' := [some (.ref (z + 0)), some (.long (Int64.ofInt x10)), none, some (.int (Int32.ofInt 0)), none]) (st' := []) qd70_32 rfl ?_
  obtain ⟨x48, e49, h⟩ := sw_bind h
  refine sq_weak (L := [some (.ref (z + 0)), some (.long (Int64.ofInt x10)), none, some (.int (Int32.ofInt 0)), none]) ⟨rfl, rfl, rfl, trivial⟩ (B70_33 hn (res := x48) ?_ _ _ _ e49)
  refine go_s qd70_114 rfl ?_
  refine go_l (L' := [some (.ref (z + 0)), some (.long (Int64.ofInt x48)), none, some (.int (Int32.ofInt 0)), none]) (st' := []) qd70_115 rfl ?_
  obtain ⟨x69, e70, h⟩ := sw_bind h
  refine sq_weak (L := [some (.ref (z + 0)), some (.long (Int64.ofInt x48)), none, some (.int (Int32.ofInt 0)), none]) ⟨rfl, rfl, rfl, trivial⟩ (B70_116 hn (res := x69) ?_ _ _ _ e70)
  refine ga_k64 (u := 31) qd70_161 qc70 ql7_10 rfl ?_
  refine ga_k64 (u := 31) qd70_164 qc70 ql7_10 rfl ?_
  refine ga_k64 (u := 31) qd70_167 qc70 ql7_10 rfl ?_
  refine go_l qd70_170 rfl ?_
  refine ga_lmul qd70_171 ?_
  refine go_l qd70_172 rfl ?_
  refine go_s qd70_173 rfl ?_
  obtain ⟨r72, e71, h⟩ := sw_bind h
  refine ga_kv (a := 0) (as := [.int (Int32.ofInt 0)]) (rest := [.long (Int64.ofInt (31 * x69)), .long (Int64.ofInt 31), .long (Int64.ofInt 31)]) qd70_174 qk70_28 (sw_sl hn (by decide)) rfl rfl rfl (Nat.le_of_ble_eq_true rfl) (Nat.le_of_ble_eq_true rfl) rfl (A60 hn e71 (fun r73 g75 => ?_) (fun E74 g76 => ?_))
  · refine sw_bkv ?_
    replace h := sw_elL g75 h
    obtain ⟨_u, e77, h⟩ := sw_bind h
    refine ga_i2l qd70_177 e77 ?_
    refine ga_ladd qd70_178 ?_
    refine ga_lmul qd70_179 ?_
    refine go_l qd70_180 rfl ?_
    refine go_s qd70_181 rfl ?_
    obtain ⟨r79, e78, h⟩ := sw_bind h
    refine ga_kv (a := 0) (as := [.int (Int32.ofInt 1)]) (rest := [.long (Int64.ofInt (31 * ((31 * x69) + r73))), .long (Int64.ofInt 31)]) qd70_182 qk70_28 (sw_sl hn (by decide)) rfl rfl rfl (Nat.le_of_ble_eq_true rfl) (Nat.le_of_ble_eq_true rfl) rfl (A60 hn e78 (fun r80 g82 => ?_) (fun E81 g83 => ?_))
    · refine sw_bkv ?_
      replace h := sw_elL g82 h
      obtain ⟨_u, e84, h⟩ := sw_bind h
      refine ga_i2l qd70_185 e84 ?_
      refine ga_ladd qd70_186 ?_
      refine ga_lmul qd70_187 ?_
      refine go_l qd70_188 rfl ?_
      refine go_s qd70_189 rfl ?_
      obtain ⟨r86, e85, h⟩ := sw_bind h
      refine ga_kv (a := 0) (as := [.int (Int32.ofInt 2)]) (rest := [.long (Int64.ofInt (31 * ((31 * ((31 * x69) + r73)) + r80)))]) qd70_190 qk70_28 (sw_sl hn (by decide)) rfl rfl rfl (Nat.le_of_ble_eq_true rfl) (Nat.le_of_ble_eq_true rfl) rfl (A60 hn e85 (fun r87 g89 => ?_) (fun E88 g90 => ?_))
      · refine sw_bkv ?_
        replace h := sw_elL g89 h
        obtain ⟨_u, e91, h⟩ := sw_bind h
        refine ga_i2l qd70_193 e91 ?_
        refine ga_ladd qd70_194 ?_
        rw [← sw_sj h] at kk
        exact ga_rl qd70_195 qr70 kk
      · replace h := sw_elR g90 h
        cases h
    · replace h := sw_elR g83 h
      cases h
  · replace h := sw_elR g76 h
    cases h
theorem qk71_12 : sw_ck 71 12 59 0 1 5 2 = true := by decide +kernel
theorem qk71_31 : sw_ck 71 31 69 1 2 7 2 = true := by decide +kernel
theorem qr71 : sq_ret 71 = some .int := by decide +kernel
theorem qk71_36 : sw_ck 71 36 47 0 1 5 2 = true := by decide +kernel
theorem qk71_39 : sw_ck 71 39 48 0 2 5 3 = true := by decide +kernel
theorem qk71_42 : sw_ck 71 42 50 0 1 5 2 = true := by decide +kernel
theorem qk71_45 : sw_ck 71 45 52 0 2 5 4 = true := by decide +kernel
theorem qk71_48 : sw_ck 71 48 51 0 1 5 3 = true := by decide +kernel
theorem qk71_18 : sw_ck 71 18 56 0 2 5 3 = true := by decide +kernel
theorem qk71_51 : sw_ck 71 51 49 0 2 5 3 = true := by decide +kernel
-- 71: SewingPilesLaw.act(LSewingPiles;II)I
def w203 (T : sw_T) (p1 : Int) (p2 : Int) : Option (Int × sw_T) :=
  (sw_r1 p1).bind fun _u =>
  (w75 T 1).bind fun r3 =>
  sw_el r3 (fun r4 =>
    (w201 T (p1 / 16) r4).bind fun r9 =>
    (sw_r1 (p1 % 16)).bind fun _u =>
    if (p1 % 16) = 0 then
      (w75 T 1).bind fun r13 =>
      sw_el r13 (fun r14 =>
        (sw_r2 r14 6).bind fun _u =>
        if r14 = 6 then
          some (((-9), T))
        else
          (w201 T p2 9).bind fun r21 =>
          (w59 T (1 + r21)).bind fun r23 =>
          sw_el r23 (fun r24 =>
            some ((r24.1, r24.2))
          ) (fun E25 =>
          none)
      ) (fun E15 =>
      none)
    else
    if (p1 % 16) = 1 then
      (w201 T p2 9).bind fun r30 =>
      (w60 T r9 (1 + r30)).bind fun r32 =>
      sw_el r32 (fun r33 =>
        some ((r33.1, r33.2))
      ) (fun E34 =>
      none)
    else
    if (p1 % 16) = 2 then
      (w62 T r9).bind fun r39 =>
      sw_el r39 (fun r40 =>
        some ((r40.1, r40.2))
      ) (fun E41 =>
      none)
    else
    if (p1 % 16) = 3 then
      (w201 T p2 3).bind fun r46 =>
      (sw_r1 r46).bind fun _u =>
      if r46 = 0 then
        (sw_r1 p2).bind fun _u =>
        (w201 T (p2 / 4) 98).bind fun r51 =>
        (w64 T r46 (2 + r51)).bind fun r53 =>
        sw_el r53 (fun r54 =>
          some ((r54.1, r54.2))
        ) (fun E55 =>
        none)
      else
        (sw_r2 r46 1).bind fun _u =>
        if r46 = 1 then
          (sw_r1 p2).bind fun _u =>
          (w201 T (p2 / 4) 3).bind fun r62 =>
          (w64 T r46 r62).bind fun r64 =>
          sw_el r64 (fun r65 =>
            some ((r65.1, r65.2))
          ) (fun E66 =>
          none)
        else
          (sw_r1 p2).bind fun _u =>
          (w201 T (p2 / 4) 20).bind fun r71 =>
          (w64 T r46 (1 + r71)).bind fun r73 =>
          sw_el r73 (fun r74 =>
            some ((r74.1, r74.2))
          ) (fun E75 =>
          none)
    else
    if (p1 % 16) = 4 then
      (sw_r1 p2).bind fun _u =>
      (sw_r1 ((p2 / 1048576) % 4)).bind fun _u =>
      if ((p2 / 1048576) % 4) = 0 then
        (w201 T p2 60).bind fun r83 =>
        (w63 T (1 + r83)).bind fun r85 =>
        sw_el r85 (fun r86 =>
          some ((r86.1, r86.2))
        ) (fun E87 =>
        none)
      else
        (w201 T p2 5).bind fun r91 =>
        (w63 T (1 + r91)).bind fun r93 =>
        sw_el r93 (fun r94 =>
          some ((r94.1, r94.2))
        ) (fun E95 =>
        none)
    else
    if (p1 % 16) = 5 then
      (sw_r1 p2).bind fun _u =>
      (sw_r1 ((p2 / 1048576) % 4)).bind fun _u =>
      if ((p2 / 1048576) % 4) = 0 then
        (w201 T p2 60).bind fun r103 =>
        (w63 T (1 + r103)).bind fun r105 =>
        sw_el r105 (fun r106 =>
          some ((r106.1, r106.2))
        ) (fun E107 =>
        none)
      else
        (w201 T p2 5).bind fun r111 =>
        (w63 T (1 + r111)).bind fun r113 =>
        sw_el r113 (fun r114 =>
          some ((r114.1, r114.2))
        ) (fun E115 =>
        none)
    else
    if (p1 % 16) = 6 then
      (sw_r1 p2).bind fun _u =>
      (sw_r1 ((p2 / 1048576) % 4)).bind fun _u =>
      if ((p2 / 1048576) % 4) = 0 then
        (w201 T p2 60).bind fun r123 =>
        (w63 T (1 + r123)).bind fun r125 =>
        sw_el r125 (fun r126 =>
          some ((r126.1, r126.2))
        ) (fun E127 =>
        none)
      else
        (w201 T p2 5).bind fun r131 =>
        (w63 T (1 + r131)).bind fun r133 =>
        sw_el r133 (fun r134 =>
          some ((r134.1, r134.2))
        ) (fun E135 =>
        none)
    else
    if (p1 % 16) = 7 then
      (sw_r1 p2).bind fun _u =>
      (sw_r1 ((p2 / 1048576) % 4)).bind fun _u =>
      if ((p2 / 1048576) % 4) = 0 then
        (w201 T p2 60).bind fun r143 =>
        (w63 T (1 + r143)).bind fun r145 =>
        sw_el r145 (fun r146 =>
          some ((r146.1, r146.2))
        ) (fun E147 =>
        none)
      else
        (w201 T p2 5).bind fun r151 =>
        (w63 T (1 + r151)).bind fun r153 =>
        sw_el r153 (fun r154 =>
          some ((r154.1, r154.2))
        ) (fun E155 =>
        none)
    else
    if (p1 % 16) = 8 then
      (sw_r1 p2).bind fun _u =>
      (sw_r1 ((p2 / 1048576) % 4)).bind fun _u =>
      if ((p2 / 1048576) % 4) = 0 then
        (w201 T p2 60).bind fun r163 =>
        (w63 T (1 + r163)).bind fun r165 =>
        sw_el r165 (fun r166 =>
          some ((r166.1, r166.2))
        ) (fun E167 =>
        none)
      else
        (w201 T p2 5).bind fun r171 =>
        (w63 T (1 + r171)).bind fun r173 =>
        sw_el r173 (fun r174 =>
          some ((r174.1, r174.2))
        ) (fun E175 =>
        none)
    else
      (w72 T r9 1).bind fun r179 =>
      sw_el r179 (fun r180 =>
        (sw_r2 r180 16).bind fun _u =>
        if r180 = 16 then
          some (((-9), T))
        else
          (w75 T 2).bind fun r187 =>
          sw_el r187 (fun r188 =>
            (sw_r2 r188 120).bind fun _u =>
            if r188 = 120 then
              some (((-9), T))
            else
              (w201 T p2 99).bind fun r195 =>
              (w61 T r9 (1 + r195)).bind fun r197 =>
              sw_el r197 (fun r198 =>
                some ((r198.1, r198.2))
              ) (fun E199 =>
              none)
          ) (fun E189 =>
          none)
      ) (fun E181 =>
      none)
  ) (fun E5 =>
  none)
theorem A71 {G : sp_G} {z n : Nat} (hn : 221 ≤ n) (hG : sw_G G z) {T : sw_T} {K : sw_K} {p1 : Int} {p2 : Int} {res : Int × sw_T} {Q : sp_R → sp_M → Prop} (h : w203 T p1 p2 = some res) (kk : Q (.inl (some (.int (Int32.ofInt res.1)))) (sw_M z n sw_Ft res.2 K)) : sq_go G 71 0 [some (.ref (z + 0)), some (.int (Int32.ofInt p1)), some (.int (Int32.ofInt p2)), none, none] [] (sw_M z n sw_Ft T K) Q := by
  unfold w203 at h
  refine go_l qd71_0 rfl ?_
  refine go_s qd71_1 rfl ?_
  obtain ⟨_u, e1, h⟩ := sw_bind h
  refine ga_ishr4 qd71_2 e1 ?_
  refine go_l qd71_3 rfl ?_
  refine go_s qd71_4 rfl ?_
  obtain ⟨r3, e2, h⟩ := sw_bind h
  refine ga_kv (a := 0) (as := [.int (Int32.ofInt 1)]) (rest := [.int (Int32.ofInt (p1 / 16))]) qd71_5 qk71_12 (sw_sl hn (by decide)) rfl rfl rfl (Nat.le_of_ble_eq_true rfl) (Nat.le_of_ble_eq_true rfl) rfl (A59 hn e2 (fun r4 g6 => ?_) (fun E5 g7 => ?_))
  · refine sw_bkv ?_
    replace h := sw_elL g6 h
    obtain ⟨r9, e8, h⟩ := sw_bind h
    refine ga_kS (as := [.int (Int32.ofInt (p1 / 16)), .int (Int32.ofInt r4)]) (rest := []) qd71_8 qk71_31 rfl rfl (Nat.le_of_ble_eq_true rfl) (Nat.le_of_ble_eq_true rfl) rfl (A69 hn e8 (sw_bkv ?_))
    refine go_l (L' := [some (.ref (z + 0)), some (.int (Int32.ofInt p1)), some (.int (Int32.ofInt p2)), some (.int (Int32.ofInt r9)), none]) (st' := []) qd71_11 rfl ?_
    refine go_l qd71_12 rfl ?_
    refine ga_k8 qd71_13 rfl ?_
    refine ga_iand15 qd71_15 ?_
    obtain ⟨_u, e10, h⟩ := sw_bind h
    by_cases hb11 : (p1 % 16) = 0
    · replace h := sw_ifY hb11 h
      refine ga_sw (t := 68) qd71_16 rfl hb11 rfl ?_
      refine go_l qd71_68 rfl ?_
      refine go_s qd71_69 rfl ?_
      obtain ⟨r13, e12, h⟩ := sw_bind h
      refine ga_kv (a := 0) (as := [.int (Int32.ofInt 1)]) (rest := []) qd71_70 qk71_12 (sw_sl hn (by decide)) rfl rfl rfl (Nat.le_of_ble_eq_true rfl) (Nat.le_of_ble_eq_true rfl) rfl (A59 hn e12 (fun r14 g16 => ?_) (fun E15 g17 => ?_))
      · refine sw_bkv ?_
        replace h := sw_elL g16 h
        refine ga_k8 qd71_73 rfl ?_
        obtain ⟨_u, e18, h⟩ := sw_bind h
        by_cases hb19 : r14 = 6
        · replace h := sw_ifY hb19 h
          refine ga_cneY (t := 83) qd71_75 e18 hb19 rfl ?_
          refine ga_k8 qd71_78 rfl ?_
          refine ga_jp (t := 95) qd71_80 rfl ?_
          rw [← sw_sj h] at kk
          exact ga_ri qd71_95 qr71 kk
        · replace h := sw_ifN hb19 h
          refine ga_cneN (t := 83) qd71_75 e18 hb19 rfl ?_
          refine go_l qd71_83 rfl ?_
          refine go_s qd71_84 rfl ?_
          refine go_l qd71_85 rfl ?_
          refine ga_k8 qd71_86 rfl ?_
          obtain ⟨r21, e20, h⟩ := sw_bind h
          refine ga_kS (as := [.int (Int32.ofInt p2), .int (Int32.ofInt 9)]) (rest := [.int (Int32.ofInt 1), .ref (z + 0)]) qd71_88 qk71_31 rfl rfl (Nat.le_of_ble_eq_true rfl) (Nat.le_of_ble_eq_true rfl) rfl (A69 hn e20 (sw_bkv ?_))
          refine ga_iadd qd71_91 ?_
          obtain ⟨r23, e22, h⟩ := sw_bind h
          refine ga_kv (a := 0) (as := [.int (Int32.ofInt (1 + r21))]) (rest := []) qd71_92 qk71_36 (sw_sl hn (by decide)) rfl rfl rfl (Nat.le_of_ble_eq_true rfl) (Nat.le_of_ble_eq_true rfl) rfl (A47 hn e22 (fun r24 g26 => ?_) (fun E25 g27 => ?_))
          · refine sw_bkv ?_
            replace h := sw_elL g26 h
            rw [← sw_sj h] at kk
            exact ga_ri qd71_95 qr71 kk
          · replace h := sw_elR g27 h
            cases h
      · replace h := sw_elR g17 h
        cases h
    · replace h := sw_ifN hb11 h
      by_cases hb28 : (p1 % 16) = 1
      · replace h := sw_ifY hb28 h
        refine ga_sw (t := 96) qd71_16 rfl hb28 rfl ?_
        refine go_l qd71_96 rfl ?_
        refine go_l qd71_97 rfl ?_
        refine go_s qd71_98 rfl ?_
        refine go_l qd71_99 rfl ?_
        refine ga_k8 qd71_100 rfl ?_
        obtain ⟨r30, e29, h⟩ := sw_bind h
        refine ga_kS (as := [.int (Int32.ofInt p2), .int (Int32.ofInt 9)]) (rest := [.int (Int32.ofInt 1), .int (Int32.ofInt r9), .ref (z + 0)]) qd71_102 qk71_31 rfl rfl (Nat.le_of_ble_eq_true rfl) (Nat.le_of_ble_eq_true rfl) rfl (A69 hn e29 (sw_bkv ?_))
        refine ga_iadd qd71_105 ?_
        obtain ⟨r32, e31, h⟩ := sw_bind h
        refine ga_kv (a := 0) (as := [.int (Int32.ofInt r9), .int (Int32.ofInt (1 + r30))]) (rest := []) qd71_106 qk71_39 (sw_sl hn (by decide)) rfl rfl rfl (Nat.le_of_ble_eq_true rfl) (Nat.le_of_ble_eq_true rfl) rfl (A48 hn e31 (fun r33 g35 => ?_) (fun E34 g36 => ?_))
        · refine sw_bkv ?_
          replace h := sw_elL g35 h
          rw [← sw_sj h] at kk
          exact ga_ri qd71_109 qr71 kk
        · replace h := sw_elR g36 h
          cases h
      · replace h := sw_ifN hb28 h
        by_cases hb37 : (p1 % 16) = 2
        · replace h := sw_ifY hb37 h
          refine ga_sw (t := 110) qd71_16 rfl hb37 rfl ?_
          refine go_l qd71_110 rfl ?_
          refine go_l qd71_111 rfl ?_
          obtain ⟨r39, e38, h⟩ := sw_bind h
          refine ga_kv (a := 0) (as := [.int (Int32.ofInt r9)]) (rest := []) qd71_112 qk71_42 (sw_sl hn (by decide)) rfl rfl rfl (Nat.le_of_ble_eq_true rfl) (Nat.le_of_ble_eq_true rfl) rfl (A50 hn e38 (fun r40 g42 => ?_) (fun E41 g43 => ?_))
          · refine sw_bkv ?_
            replace h := sw_elL g42 h
            rw [← sw_sj h] at kk
            exact ga_ri qd71_115 qr71 kk
          · replace h := sw_elR g43 h
            cases h
        · replace h := sw_ifN hb37 h
          by_cases hb44 : (p1 % 16) = 3
          · replace h := sw_ifY hb44 h
            refine ga_sw (t := 116) qd71_16 rfl hb44 rfl ?_
            refine go_l qd71_116 rfl ?_
            refine go_s qd71_117 rfl ?_
            obtain ⟨r46, e45, h⟩ := sw_bind h
            refine ga_kS (as := [.int (Int32.ofInt p2), .int (Int32.ofInt 3)]) (rest := []) qd71_118 qk71_31 rfl rfl (Nat.le_of_ble_eq_true rfl) (Nat.le_of_ble_eq_true rfl) rfl (A69 hn e45 (sw_bkv ?_))
            refine go_l (L' := [some (.ref (z + 0)), some (.int (Int32.ofInt p1)), some (.int (Int32.ofInt p2)), some (.int (Int32.ofInt r9)), some (.int (Int32.ofInt r46))]) (st' := []) qd71_121 rfl ?_
            refine go_l qd71_123 rfl ?_
            refine go_l qd71_124 rfl ?_
            refine go_l qd71_126 rfl ?_
            obtain ⟨_u, e47, h⟩ := sw_bind h
            by_cases hb48 : r46 = 0
            · replace h := sw_ifY hb48 h
              refine ga_zneY (t := 144) qd71_128 e47 hb48 rfl ?_
              refine go_s qd71_131 rfl ?_
              refine go_l qd71_132 rfl ?_
              refine go_s qd71_133 rfl ?_
              obtain ⟨_u, e49, h⟩ := sw_bind h
              refine ga_ishr2 qd71_134 e49 ?_
              refine ga_k8 qd71_135 rfl ?_
              obtain ⟨r51, e50, h⟩ := sw_bind h
              refine ga_kS (as := [.int (Int32.ofInt (p2 / 4)), .int (Int32.ofInt 98)]) (rest := [.int (Int32.ofInt 2), .int (Int32.ofInt r46), .ref (z + 0)]) qd71_137 qk71_31 rfl rfl (Nat.le_of_ble_eq_true rfl) (Nat.le_of_ble_eq_true rfl) rfl (A69 hn e50 (sw_bkv ?_))
              refine ga_iadd qd71_140 ?_
              refine ga_jp (t := 170) qd71_141 rfl ?_
              obtain ⟨r53, e52, h⟩ := sw_bind h
              refine ga_kv (a := 0) (as := [.int (Int32.ofInt r46), .int (Int32.ofInt (2 + r51))]) (rest := []) qd71_170 qk71_45 (sw_sl hn (by decide)) rfl rfl rfl (Nat.le_of_ble_eq_true rfl) (Nat.le_of_ble_eq_true rfl) rfl (A52 hn hG e52 (fun r54 g56 => ?_) (fun E55 g57 => ?_))
              · refine sw_bkv ?_
                replace h := sw_elL g56 h
                rw [← sw_sj h] at kk
                exact ga_ri qd71_173 qr71 kk
              · replace h := sw_elR g57 h
                cases h
            · replace h := sw_ifN hb48 h
              refine ga_zneN (t := 144) qd71_128 e47 hb48 rfl ?_
              refine go_l qd71_144 rfl ?_
              refine go_s qd71_146 rfl ?_
              obtain ⟨_u, e58, h⟩ := sw_bind h
              by_cases hb59 : r46 = 1
              · replace h := sw_ifY hb59 h
                refine ga_cneY (t := 160) qd71_147 e58 hb59 rfl ?_
                refine go_l qd71_150 rfl ?_
                refine go_s qd71_151 rfl ?_
                obtain ⟨_u, e60, h⟩ := sw_bind h
                refine ga_ishr2 qd71_152 e60 ?_
                refine go_s qd71_153 rfl ?_
                obtain ⟨r62, e61, h⟩ := sw_bind h
                refine ga_kS (as := [.int (Int32.ofInt (p2 / 4)), .int (Int32.ofInt 3)]) (rest := [.int (Int32.ofInt r46), .ref (z + 0)]) qd71_154 qk71_31 rfl rfl (Nat.le_of_ble_eq_true rfl) (Nat.le_of_ble_eq_true rfl) rfl (A69 hn e61 (sw_bkv ?_))
                refine ga_jp (t := 170) qd71_157 rfl ?_
                obtain ⟨r64, e63, h⟩ := sw_bind h
                refine ga_kv (a := 0) (as := [.int (Int32.ofInt r46), .int (Int32.ofInt r62)]) (rest := []) qd71_170 qk71_45 (sw_sl hn (by decide)) rfl rfl rfl (Nat.le_of_ble_eq_true rfl) (Nat.le_of_ble_eq_true rfl) rfl (A52 hn hG e63 (fun r65 g67 => ?_) (fun E66 g68 => ?_))
                · refine sw_bkv ?_
                  replace h := sw_elL g67 h
                  rw [← sw_sj h] at kk
                  exact ga_ri qd71_173 qr71 kk
                · replace h := sw_elR g68 h
                  cases h
              · replace h := sw_ifN hb59 h
                refine ga_cneN (t := 160) qd71_147 e58 hb59 rfl ?_
                refine go_s qd71_160 rfl ?_
                refine go_l qd71_161 rfl ?_
                refine go_s qd71_162 rfl ?_
                obtain ⟨_u, e69, h⟩ := sw_bind h
                refine ga_ishr2 qd71_163 e69 ?_
                refine ga_k8 qd71_164 rfl ?_
                obtain ⟨r71, e70, h⟩ := sw_bind h
                refine ga_kS (as := [.int (Int32.ofInt (p2 / 4)), .int (Int32.ofInt 20)]) (rest := [.int (Int32.ofInt 1), .int (Int32.ofInt r46), .ref (z + 0)]) qd71_166 qk71_31 rfl rfl (Nat.le_of_ble_eq_true rfl) (Nat.le_of_ble_eq_true rfl) rfl (A69 hn e70 (sw_bkv ?_))
                refine ga_iadd qd71_169 ?_
                obtain ⟨r73, e72, h⟩ := sw_bind h
                refine ga_kv (a := 0) (as := [.int (Int32.ofInt r46), .int (Int32.ofInt (1 + r71))]) (rest := []) qd71_170 qk71_45 (sw_sl hn (by decide)) rfl rfl rfl (Nat.le_of_ble_eq_true rfl) (Nat.le_of_ble_eq_true rfl) rfl (A52 hn hG e72 (fun r74 g76 => ?_) (fun E75 g77 => ?_))
                · refine sw_bkv ?_
                  replace h := sw_elL g76 h
                  rw [← sw_sj h] at kk
                  exact ga_ri qd71_173 qr71 kk
                · replace h := sw_elR g77 h
                  cases h
          · replace h := sw_ifN hb44 h
            by_cases hb78 : (p1 % 16) = 4
            · replace h := sw_ifY hb78 h
              refine ga_sw (t := 174) qd71_16 rfl hb78 rfl ?_
              refine go_l qd71_174 rfl ?_
              refine go_s qd71_175 rfl ?_
              refine go_l qd71_176 rfl ?_
              refine go_l qd71_177 rfl ?_
              refine ga_k8 qd71_178 rfl ?_
              obtain ⟨_u, e79, h⟩ := sw_bind h
              refine ga_ishr20 qd71_180 e79 ?_
              refine go_s qd71_181 rfl ?_
              refine ga_iand3 qd71_182 ?_
              obtain ⟨_u, e80, h⟩ := sw_bind h
              by_cases hb81 : ((p2 / 1048576) % 4) = 0
              · replace h := sw_ifY hb81 h
                refine ga_zneY (t := 191) qd71_183 e80 hb81 rfl ?_
                refine ga_k8 qd71_186 rfl ?_
                refine ga_jp (t := 192) qd71_188 rfl ?_
                obtain ⟨r83, e82, h⟩ := sw_bind h
                refine ga_kS (as := [.int (Int32.ofInt p2), .int (Int32.ofInt 60)]) (rest := [.int (Int32.ofInt 1), .ref (z + 0)]) qd71_192 qk71_31 rfl rfl (Nat.le_of_ble_eq_true rfl) (Nat.le_of_ble_eq_true rfl) rfl (A69 hn e82 (sw_bkv ?_))
                refine ga_iadd qd71_195 ?_
                obtain ⟨r85, e84, h⟩ := sw_bind h
                refine ga_kv (a := 0) (as := [.int (Int32.ofInt (1 + r83))]) (rest := []) qd71_196 qk71_48 (sw_sl hn (by decide)) rfl rfl rfl (Nat.le_of_ble_eq_true rfl) (Nat.le_of_ble_eq_true rfl) rfl (A51 hn e84 (fun r86 g88 => ?_) (fun E87 g89 => ?_))
                · refine sw_bkv ?_
                  replace h := sw_elL g88 h
                  rw [← sw_sj h] at kk
                  exact ga_ri qd71_199 qr71 kk
                · replace h := sw_elR g89 h
                  cases h
              · replace h := sw_ifN hb81 h
                refine ga_zneN (t := 191) qd71_183 e80 hb81 rfl ?_
                refine go_s qd71_191 rfl ?_
                obtain ⟨r91, e90, h⟩ := sw_bind h
                refine ga_kS (as := [.int (Int32.ofInt p2), .int (Int32.ofInt 5)]) (rest := [.int (Int32.ofInt 1), .ref (z + 0)]) qd71_192 qk71_31 rfl rfl (Nat.le_of_ble_eq_true rfl) (Nat.le_of_ble_eq_true rfl) rfl (A69 hn e90 (sw_bkv ?_))
                refine ga_iadd qd71_195 ?_
                obtain ⟨r93, e92, h⟩ := sw_bind h
                refine ga_kv (a := 0) (as := [.int (Int32.ofInt (1 + r91))]) (rest := []) qd71_196 qk71_48 (sw_sl hn (by decide)) rfl rfl rfl (Nat.le_of_ble_eq_true rfl) (Nat.le_of_ble_eq_true rfl) rfl (A51 hn e92 (fun r94 g96 => ?_) (fun E95 g97 => ?_))
                · refine sw_bkv ?_
                  replace h := sw_elL g96 h
                  rw [← sw_sj h] at kk
                  exact ga_ri qd71_199 qr71 kk
                · replace h := sw_elR g97 h
                  cases h
            · replace h := sw_ifN hb78 h
              by_cases hb98 : (p1 % 16) = 5
              · replace h := sw_ifY hb98 h
                refine ga_sw (t := 174) qd71_16 rfl hb98 rfl ?_
                refine go_l qd71_174 rfl ?_
                refine go_s qd71_175 rfl ?_
                refine go_l qd71_176 rfl ?_
                refine go_l qd71_177 rfl ?_
                refine ga_k8 qd71_178 rfl ?_
                obtain ⟨_u, e99, h⟩ := sw_bind h
                refine ga_ishr20 qd71_180 e99 ?_
                refine go_s qd71_181 rfl ?_
                refine ga_iand3 qd71_182 ?_
                obtain ⟨_u, e100, h⟩ := sw_bind h
                by_cases hb101 : ((p2 / 1048576) % 4) = 0
                · replace h := sw_ifY hb101 h
                  refine ga_zneY (t := 191) qd71_183 e100 hb101 rfl ?_
                  refine ga_k8 qd71_186 rfl ?_
                  refine ga_jp (t := 192) qd71_188 rfl ?_
                  obtain ⟨r103, e102, h⟩ := sw_bind h
                  refine ga_kS (as := [.int (Int32.ofInt p2), .int (Int32.ofInt 60)]) (rest := [.int (Int32.ofInt 1), .ref (z + 0)]) qd71_192 qk71_31 rfl rfl (Nat.le_of_ble_eq_true rfl) (Nat.le_of_ble_eq_true rfl) rfl (A69 hn e102 (sw_bkv ?_))
                  refine ga_iadd qd71_195 ?_
                  obtain ⟨r105, e104, h⟩ := sw_bind h
                  refine ga_kv (a := 0) (as := [.int (Int32.ofInt (1 + r103))]) (rest := []) qd71_196 qk71_48 (sw_sl hn (by decide)) rfl rfl rfl (Nat.le_of_ble_eq_true rfl) (Nat.le_of_ble_eq_true rfl) rfl (A51 hn e104 (fun r106 g108 => ?_) (fun E107 g109 => ?_))
                  · refine sw_bkv ?_
                    replace h := sw_elL g108 h
                    rw [← sw_sj h] at kk
                    exact ga_ri qd71_199 qr71 kk
                  · replace h := sw_elR g109 h
                    cases h
                · replace h := sw_ifN hb101 h
                  refine ga_zneN (t := 191) qd71_183 e100 hb101 rfl ?_
                  refine go_s qd71_191 rfl ?_
                  obtain ⟨r111, e110, h⟩ := sw_bind h
                  refine ga_kS (as := [.int (Int32.ofInt p2), .int (Int32.ofInt 5)]) (rest := [.int (Int32.ofInt 1), .ref (z + 0)]) qd71_192 qk71_31 rfl rfl (Nat.le_of_ble_eq_true rfl) (Nat.le_of_ble_eq_true rfl) rfl (A69 hn e110 (sw_bkv ?_))
                  refine ga_iadd qd71_195 ?_
                  obtain ⟨r113, e112, h⟩ := sw_bind h
                  refine ga_kv (a := 0) (as := [.int (Int32.ofInt (1 + r111))]) (rest := []) qd71_196 qk71_48 (sw_sl hn (by decide)) rfl rfl rfl (Nat.le_of_ble_eq_true rfl) (Nat.le_of_ble_eq_true rfl) rfl (A51 hn e112 (fun r114 g116 => ?_) (fun E115 g117 => ?_))
                  · refine sw_bkv ?_
                    replace h := sw_elL g116 h
                    rw [← sw_sj h] at kk
                    exact ga_ri qd71_199 qr71 kk
                  · replace h := sw_elR g117 h
                    cases h
              · replace h := sw_ifN hb98 h
                by_cases hb118 : (p1 % 16) = 6
                · replace h := sw_ifY hb118 h
                  refine ga_sw (t := 174) qd71_16 rfl hb118 rfl ?_
                  refine go_l qd71_174 rfl ?_
                  refine go_s qd71_175 rfl ?_
                  refine go_l qd71_176 rfl ?_
                  refine go_l qd71_177 rfl ?_
                  refine ga_k8 qd71_178 rfl ?_
                  obtain ⟨_u, e119, h⟩ := sw_bind h
                  refine ga_ishr20 qd71_180 e119 ?_
                  refine go_s qd71_181 rfl ?_
                  refine ga_iand3 qd71_182 ?_
                  obtain ⟨_u, e120, h⟩ := sw_bind h
                  by_cases hb121 : ((p2 / 1048576) % 4) = 0
                  · replace h := sw_ifY hb121 h
                    refine ga_zneY (t := 191) qd71_183 e120 hb121 rfl ?_
                    refine ga_k8 qd71_186 rfl ?_
                    refine ga_jp (t := 192) qd71_188 rfl ?_
                    obtain ⟨r123, e122, h⟩ := sw_bind h
                    refine ga_kS (as := [.int (Int32.ofInt p2), .int (Int32.ofInt 60)]) (rest := [.int (Int32.ofInt 1), .ref (z + 0)]) qd71_192 qk71_31 rfl rfl (Nat.le_of_ble_eq_true rfl) (Nat.le_of_ble_eq_true rfl) rfl (A69 hn e122 (sw_bkv ?_))
                    refine ga_iadd qd71_195 ?_
                    obtain ⟨r125, e124, h⟩ := sw_bind h
                    refine ga_kv (a := 0) (as := [.int (Int32.ofInt (1 + r123))]) (rest := []) qd71_196 qk71_48 (sw_sl hn (by decide)) rfl rfl rfl (Nat.le_of_ble_eq_true rfl) (Nat.le_of_ble_eq_true rfl) rfl (A51 hn e124 (fun r126 g128 => ?_) (fun E127 g129 => ?_))
                    · refine sw_bkv ?_
                      replace h := sw_elL g128 h
                      rw [← sw_sj h] at kk
                      exact ga_ri qd71_199 qr71 kk
                    · replace h := sw_elR g129 h
                      cases h
                  · replace h := sw_ifN hb121 h
                    refine ga_zneN (t := 191) qd71_183 e120 hb121 rfl ?_
                    refine go_s qd71_191 rfl ?_
                    obtain ⟨r131, e130, h⟩ := sw_bind h
                    refine ga_kS (as := [.int (Int32.ofInt p2), .int (Int32.ofInt 5)]) (rest := [.int (Int32.ofInt 1), .ref (z + 0)]) qd71_192 qk71_31 rfl rfl (Nat.le_of_ble_eq_true rfl) (Nat.le_of_ble_eq_true rfl) rfl (A69 hn e130 (sw_bkv ?_))
                    refine ga_iadd qd71_195 ?_
                    obtain ⟨r133, e132, h⟩ := sw_bind h
                    refine ga_kv (a := 0) (as := [.int (Int32.ofInt (1 + r131))]) (rest := []) qd71_196 qk71_48 (sw_sl hn (by decide)) rfl rfl rfl (Nat.le_of_ble_eq_true rfl) (Nat.le_of_ble_eq_true rfl) rfl (A51 hn e132 (fun r134 g136 => ?_) (fun E135 g137 => ?_))
                    · refine sw_bkv ?_
                      replace h := sw_elL g136 h
                      rw [← sw_sj h] at kk
                      exact ga_ri qd71_199 qr71 kk
                    · replace h := sw_elR g137 h
                      cases h
                · replace h := sw_ifN hb118 h
                  by_cases hb138 : (p1 % 16) = 7
                  · replace h := sw_ifY hb138 h
                    refine ga_sw (t := 174) qd71_16 rfl hb138 rfl ?_
                    refine go_l qd71_174 rfl ?_
                    refine go_s qd71_175 rfl ?_
                    refine go_l qd71_176 rfl ?_
                    refine go_l qd71_177 rfl ?_
                    refine ga_k8 qd71_178 rfl ?_
                    obtain ⟨_u, e139, h⟩ := sw_bind h
                    refine ga_ishr20 qd71_180 e139 ?_
                    refine go_s qd71_181 rfl ?_
                    refine ga_iand3 qd71_182 ?_
                    obtain ⟨_u, e140, h⟩ := sw_bind h
                    by_cases hb141 : ((p2 / 1048576) % 4) = 0
                    · replace h := sw_ifY hb141 h
                      refine ga_zneY (t := 191) qd71_183 e140 hb141 rfl ?_
                      refine ga_k8 qd71_186 rfl ?_
                      refine ga_jp (t := 192) qd71_188 rfl ?_
                      obtain ⟨r143, e142, h⟩ := sw_bind h
                      refine ga_kS (as := [.int (Int32.ofInt p2), .int (Int32.ofInt 60)]) (rest := [.int (Int32.ofInt 1), .ref (z + 0)]) qd71_192 qk71_31 rfl rfl (Nat.le_of_ble_eq_true rfl) (Nat.le_of_ble_eq_true rfl) rfl (A69 hn e142 (sw_bkv ?_))
                      refine ga_iadd qd71_195 ?_
                      obtain ⟨r145, e144, h⟩ := sw_bind h
                      refine ga_kv (a := 0) (as := [.int (Int32.ofInt (1 + r143))]) (rest := []) qd71_196 qk71_48 (sw_sl hn (by decide)) rfl rfl rfl (Nat.le_of_ble_eq_true rfl) (Nat.le_of_ble_eq_true rfl) rfl (A51 hn e144 (fun r146 g148 => ?_) (fun E147 g149 => ?_))
                      · refine sw_bkv ?_
                        replace h := sw_elL g148 h
                        rw [← sw_sj h] at kk
                        exact ga_ri qd71_199 qr71 kk
                      · replace h := sw_elR g149 h
                        cases h
                    · replace h := sw_ifN hb141 h
                      refine ga_zneN (t := 191) qd71_183 e140 hb141 rfl ?_
                      refine go_s qd71_191 rfl ?_
                      obtain ⟨r151, e150, h⟩ := sw_bind h
                      refine ga_kS (as := [.int (Int32.ofInt p2), .int (Int32.ofInt 5)]) (rest := [.int (Int32.ofInt 1), .ref (z + 0)]) qd71_192 qk71_31 rfl rfl (Nat.le_of_ble_eq_true rfl) (Nat.le_of_ble_eq_true rfl) rfl (A69 hn e150 (sw_bkv ?_))
                      refine ga_iadd qd71_195 ?_
                      obtain ⟨r153, e152, h⟩ := sw_bind h
                      refine ga_kv (a := 0) (as := [.int (Int32.ofInt (1 + r151))]) (rest := []) qd71_196 qk71_48 (sw_sl hn (by decide)) rfl rfl rfl (Nat.le_of_ble_eq_true rfl) (Nat.le_of_ble_eq_true rfl) rfl (A51 hn e152 (fun r154 g156 => ?_) (fun E155 g157 => ?_))
                      · refine sw_bkv ?_
                        replace h := sw_elL g156 h
                        rw [← sw_sj h] at kk
                        exact ga_ri qd71_199 qr71 kk
                      · replace h := sw_elR g157 h
                        cases h
                  · replace h := sw_ifN hb138 h
                    by_cases hb158 : (p1 % 16) = 8
                    · replace h := sw_ifY hb158 h
                      refine ga_sw (t := 174) qd71_16 rfl hb158 rfl ?_
                      refine go_l qd71_174 rfl ?_
                      refine go_s qd71_175 rfl ?_
                      refine go_l qd71_176 rfl ?_
                      refine go_l qd71_177 rfl ?_
                      refine ga_k8 qd71_178 rfl ?_
                      obtain ⟨_u, e159, h⟩ := sw_bind h
                      refine ga_ishr20 qd71_180 e159 ?_
                      refine go_s qd71_181 rfl ?_
                      refine ga_iand3 qd71_182 ?_
                      obtain ⟨_u, e160, h⟩ := sw_bind h
                      by_cases hb161 : ((p2 / 1048576) % 4) = 0
                      · replace h := sw_ifY hb161 h
                        refine ga_zneY (t := 191) qd71_183 e160 hb161 rfl ?_
                        refine ga_k8 qd71_186 rfl ?_
                        refine ga_jp (t := 192) qd71_188 rfl ?_
                        obtain ⟨r163, e162, h⟩ := sw_bind h
                        refine ga_kS (as := [.int (Int32.ofInt p2), .int (Int32.ofInt 60)]) (rest := [.int (Int32.ofInt 1), .ref (z + 0)]) qd71_192 qk71_31 rfl rfl (Nat.le_of_ble_eq_true rfl) (Nat.le_of_ble_eq_true rfl) rfl (A69 hn e162 (sw_bkv ?_))
                        refine ga_iadd qd71_195 ?_
                        obtain ⟨r165, e164, h⟩ := sw_bind h
                        refine ga_kv (a := 0) (as := [.int (Int32.ofInt (1 + r163))]) (rest := []) qd71_196 qk71_48 (sw_sl hn (by decide)) rfl rfl rfl (Nat.le_of_ble_eq_true rfl) (Nat.le_of_ble_eq_true rfl) rfl (A51 hn e164 (fun r166 g168 => ?_) (fun E167 g169 => ?_))
                        · refine sw_bkv ?_
                          replace h := sw_elL g168 h
                          rw [← sw_sj h] at kk
                          exact ga_ri qd71_199 qr71 kk
                        · replace h := sw_elR g169 h
                          cases h
                      · replace h := sw_ifN hb161 h
                        refine ga_zneN (t := 191) qd71_183 e160 hb161 rfl ?_
                        refine go_s qd71_191 rfl ?_
                        obtain ⟨r171, e170, h⟩ := sw_bind h
                        refine ga_kS (as := [.int (Int32.ofInt p2), .int (Int32.ofInt 5)]) (rest := [.int (Int32.ofInt 1), .ref (z + 0)]) qd71_192 qk71_31 rfl rfl (Nat.le_of_ble_eq_true rfl) (Nat.le_of_ble_eq_true rfl) rfl (A69 hn e170 (sw_bkv ?_))
                        refine ga_iadd qd71_195 ?_
                        obtain ⟨r173, e172, h⟩ := sw_bind h
                        refine ga_kv (a := 0) (as := [.int (Int32.ofInt (1 + r171))]) (rest := []) qd71_196 qk71_48 (sw_sl hn (by decide)) rfl rfl rfl (Nat.le_of_ble_eq_true rfl) (Nat.le_of_ble_eq_true rfl) rfl (A51 hn e172 (fun r174 g176 => ?_) (fun E175 g177 => ?_))
                        · refine sw_bkv ?_
                          replace h := sw_elL g176 h
                          rw [← sw_sj h] at kk
                          exact ga_ri qd71_199 qr71 kk
                        · replace h := sw_elR g177 h
                          cases h
                    · replace h := sw_ifN hb158 h
                      refine ga_tsd (t := 200) qd71_16 e10 (by omega) rfl ?_
                      refine go_l qd71_200 rfl ?_
                      refine go_l qd71_201 rfl ?_
                      refine go_s qd71_202 rfl ?_
                      obtain ⟨r179, e178, h⟩ := sw_bind h
                      refine ga_kv (a := 0) (as := [.int (Int32.ofInt r9), .int (Int32.ofInt 1)]) (rest := []) qd71_203 qk71_18 (sw_sl hn (by decide)) rfl rfl rfl (Nat.le_of_ble_eq_true rfl) (Nat.le_of_ble_eq_true rfl) rfl (A56 hn e178 (fun r180 g182 => ?_) (fun E181 g183 => ?_))
                      · refine sw_bkv ?_
                        replace h := sw_elL g182 h
                        refine ga_k8 qd71_206 rfl ?_
                        obtain ⟨_u, e184, h⟩ := sw_bind h
                        by_cases hb185 : r180 = 16
                        · replace h := sw_ifY hb185 h
                          refine ga_ceqY (t := 221) qd71_208 e184 hb185 rfl ?_
                          refine ga_k8 qd71_221 rfl ?_
                          refine ga_jp (t := 239) qd71_223 rfl ?_
                          rw [← sw_sj h] at kk
                          exact ga_ri qd71_239 qr71 kk
                        · replace h := sw_ifN hb185 h
                          refine ga_ceqN (t := 221) qd71_208 e184 hb185 rfl ?_
                          refine go_l qd71_211 rfl ?_
                          refine go_s qd71_212 rfl ?_
                          obtain ⟨r187, e186, h⟩ := sw_bind h
                          refine ga_kv (a := 0) (as := [.int (Int32.ofInt 2)]) (rest := []) qd71_213 qk71_12 (sw_sl hn (by decide)) rfl rfl rfl (Nat.le_of_ble_eq_true rfl) (Nat.le_of_ble_eq_true rfl) rfl (A59 hn e186 (fun r188 g190 => ?_) (fun E189 g191 => ?_))
                          · refine sw_bkv ?_
                            replace h := sw_elL g190 h
                            refine ga_k8 qd71_216 rfl ?_
                            obtain ⟨_u, e192, h⟩ := sw_bind h
                            by_cases hb193 : r188 = 120
                            · replace h := sw_ifY hb193 h
                              refine ga_cneY (t := 226) qd71_218 e192 hb193 rfl ?_
                              refine ga_k8 qd71_221 rfl ?_
                              refine ga_jp (t := 239) qd71_223 rfl ?_
                              rw [← sw_sj h] at kk
                              exact ga_ri qd71_239 qr71 kk
                            · replace h := sw_ifN hb193 h
                              refine ga_cneN (t := 226) qd71_218 e192 hb193 rfl ?_
                              refine go_l qd71_226 rfl ?_
                              refine go_l qd71_227 rfl ?_
                              refine go_s qd71_228 rfl ?_
                              refine go_l qd71_229 rfl ?_
                              refine ga_k8 qd71_230 rfl ?_
                              obtain ⟨r195, e194, h⟩ := sw_bind h
                              refine ga_kS (as := [.int (Int32.ofInt p2), .int (Int32.ofInt 99)]) (rest := [.int (Int32.ofInt 1), .int (Int32.ofInt r9), .ref (z + 0)]) qd71_232 qk71_31 rfl rfl (Nat.le_of_ble_eq_true rfl) (Nat.le_of_ble_eq_true rfl) rfl (A69 hn e194 (sw_bkv ?_))
                              refine ga_iadd qd71_235 ?_
                              obtain ⟨r197, e196, h⟩ := sw_bind h
                              refine ga_kv (a := 0) (as := [.int (Int32.ofInt r9), .int (Int32.ofInt (1 + r195))]) (rest := []) qd71_236 qk71_51 (sw_sl hn (by decide)) rfl rfl rfl (Nat.le_of_ble_eq_true rfl) (Nat.le_of_ble_eq_true rfl) rfl (A49 hn e196 (fun r198 g200 => ?_) (fun E199 g201 => ?_))
                              · refine sw_bkv ?_
                                replace h := sw_elL g200 h
                                rw [← sw_sj h] at kk
                                exact ga_ri qd71_239 qr71 kk
                              · replace h := sw_elR g201 h
                                cases h
                          · replace h := sw_elR g191 h
                            cases h
                      · replace h := sw_elR g183 h
                        cases h
  · replace h := sw_elR g7 h
    cases h
theorem qk72_12 : sw_ck 72 12 59 0 1 5 2 = true := by decide +kernel
theorem qk72_18 : sw_ck 72 18 56 0 2 5 3 = true := by decide +kernel
theorem qk72_54 : sw_ck 72 54 61 0 1 5 2 = true := by decide +kernel
theorem qr72 : sq_ret 72 = some .boolean := by decide +kernel
theorem qk72_25 : sw_ck 72 25 58 0 2 5 3 = true := by decide +kernel
theorem qk72_22 : sw_ck 72 22 57 0 2 5 3 = true := by decide +kernel
theorem qk72_57 : sw_ck 72 57 63 0 0 5 1 = true := by decide +kernel
theorem qk72_61 : sw_ck 72 61 64 0 0 5 5 = true := by decide +kernel
theorem qk72_65 : sw_ck 72 65 62 0 2 5 3 = true := by decide +kernel
-- 72: SewingPilesLaw.holds(LSewingPiles;)Z
def w204_64 (T : sw_T) (l1 : Int) (l2 : Int) (l3 : Int) (l5 : Int) (l6 : Int) (l7 : Int) (l8 : Int) (l9 : Int) (l10 : Int) (l11 : Int) (l12 : Int) : Nat → Int → Option (Int)
  | 0, _ => none
  | m + 1, l4 =>
    (sw_r1 l11).bind fun _u =>
    if l11 < 0 then
      some ((l4 + 0))
    else
      some ((l4 + 1))
theorem B72_64 {G : sp_G} {z n : Nat} (hn : 221 ≤ n) {T : sw_T} {l1 : Int} {l2 : Int} {l3 : Int} {l5 : Int} {l6 : Int} {l7 : Int} {l8 : Int} {l9 : Int} {l10 : Int} {l11 : Int} {l12 : Int} {K : sw_K} {res : Int} {Q : sp_R → sp_M → Prop} (kk : sq_go G 72 79 [some (.ref (z + 0)), some (.int (Int32.ofInt l1)), some (.int (Int32.ofInt l2)), some (.int (Int32.ofInt l3)), some (.int (Int32.ofInt res)), some (.int (Int32.ofInt l5)), some (.int (Int32.ofInt l6)), some (.int (Int32.ofInt l7)), some (.int (Int32.ofInt l8)), some (.int (Int32.ofInt l9)), some (.int (Int32.ofInt l10)), some (.int (Int32.ofInt l11)), some (.int (Int32.ofInt l12)), none, none, none] [] (sw_M z n sw_Ft T K) Q) : ∀ (m : Nat) (l4 : Int), w204_64 T l1 l2 l3 l5 l6 l7 l8 l9 l10 l11 l12 m l4 = some res → sq_go G 72 64 [some (.ref (z + 0)), some (.int (Int32.ofInt l1)), some (.int (Int32.ofInt l2)), some (.int (Int32.ofInt l3)), some (.int (Int32.ofInt l4)), some (.int (Int32.ofInt l5)), some (.int (Int32.ofInt l6)), some (.int (Int32.ofInt l7)), some (.int (Int32.ofInt l8)), some (.int (Int32.ofInt l9)), some (.int (Int32.ofInt l10)), some (.int (Int32.ofInt l11)), some (.int (Int32.ofInt l12)), none, none, none] [] (sw_M z n sw_Ft T K) Q := by
  intro m
  induction m with
  | zero => intro l4 h; cases h
  | succ m ih =>
    intro l4 h
    rw [w204_64] at h
    refine go_l qd72_64 rfl ?_
    refine go_l qd72_66 rfl ?_
    obtain ⟨_u, e27, h⟩ := sw_bind h
    by_cases hb28 : l11 < 0
    · replace h := sw_ifY hb28 h
      refine ga_zltY (t := 75) qd72_68 e27 hb28 rfl ?_
      refine go_s qd72_75 rfl ?_
      refine ga_iadd qd72_76 ?_
      refine go_l (L' := [some (.ref (z + 0)), some (.int (Int32.ofInt l1)), some (.int (Int32.ofInt l2)), some (.int (Int32.ofInt l3)), some (.int (Int32.ofInt (l4 + 0))), some (.int (Int32.ofInt l5)), some (.int (Int32.ofInt l6)), some (.int (Int32.ofInt l7)), some (.int (Int32.ofInt l8)), some (.int (Int32.ofInt l9)), some (.int (Int32.ofInt l10)), some (.int (Int32.ofInt l11)), some (.int (Int32.ofInt l12)), none, none, none]) (st' := []) qd72_77 rfl ?_
      rw [← sw_sj h] at kk
      exact sq_weak (L := [some (.ref (z + 0)), some (.int (Int32.ofInt l1)), some (.int (Int32.ofInt l2)), some (.int (Int32.ofInt l3)), some (.int (Int32.ofInt (l4 + 0))), some (.int (Int32.ofInt l5)), some (.int (Int32.ofInt l6)), some (.int (Int32.ofInt l7)), some (.int (Int32.ofInt l8)), some (.int (Int32.ofInt l9)), some (.int (Int32.ofInt l10)), some (.int (Int32.ofInt l11)), some (.int (Int32.ofInt l12)), none, none, none]) ⟨rfl, rfl, rfl, rfl, rfl, rfl, rfl, rfl, rfl, rfl, rfl, rfl, rfl, trivial⟩ kk
    · replace h := sw_ifN hb28 h
      refine ga_zltN (t := 75) qd72_68 e27 hb28 rfl ?_
      refine go_s qd72_71 rfl ?_
      refine ga_jp (t := 76) qd72_72 rfl ?_
      refine ga_iadd qd72_76 ?_
      refine go_l (L' := [some (.ref (z + 0)), some (.int (Int32.ofInt l1)), some (.int (Int32.ofInt l2)), some (.int (Int32.ofInt l3)), some (.int (Int32.ofInt (l4 + 1))), some (.int (Int32.ofInt l5)), some (.int (Int32.ofInt l6)), some (.int (Int32.ofInt l7)), some (.int (Int32.ofInt l8)), some (.int (Int32.ofInt l9)), some (.int (Int32.ofInt l10)), some (.int (Int32.ofInt l11)), some (.int (Int32.ofInt l12)), none, none, none]) (st' := []) qd72_77 rfl ?_
      rw [← sw_sj h] at kk
      exact sq_weak (L := [some (.ref (z + 0)), some (.int (Int32.ofInt l1)), some (.int (Int32.ofInt l2)), some (.int (Int32.ofInt l3)), some (.int (Int32.ofInt (l4 + 1))), some (.int (Int32.ofInt l5)), some (.int (Int32.ofInt l6)), some (.int (Int32.ofInt l7)), some (.int (Int32.ofInt l8)), some (.int (Int32.ofInt l9)), some (.int (Int32.ofInt l10)), some (.int (Int32.ofInt l11)), some (.int (Int32.ofInt l12)), none, none, none]) ⟨rfl, rfl, rfl, rfl, rfl, rfl, rfl, rfl, rfl, rfl, rfl, rfl, rfl, trivial⟩ kk
def w204_150 (T : sw_T) (l1 : Int) (l2 : Int) (l3 : Int) (l4 : Int) (l5 : Int) (l6 : Int) (l7 : Int) (l8 : Int) (l9 : Int) (l10 : Int) (l11 : Int) (l12 : Int) (l13 : Int) : Nat → Option ((Unit) ⊕ (Int × sw_T))
  | 0 => none
  | m + 1 =>
    (sw_r1 l11).bind fun _u =>
    if l11 < 0 then
      (sw_r2 l12 16).bind fun _u =>
      if 16 < l12 then
        some (.inr ((0, T)))
      else
        (sw_r2 l13 l10).bind fun _u =>
        if l13 = l10 then
          some (.inr ((0, T)))
        else
          (sw_r1 l13).bind fun _u =>
          if l13 < 0 then
            some (.inl ())
          else
            (w72 T l13 1).bind fun r76 =>
            sw_el r76 (fun r77 =>
              (sw_r1 r77).bind fun _u =>
              if r77 = 0 then
                some (.inr ((0, T)))
              else
                some (.inl ())
            ) (fun E78 =>
            none)
    else
      (w72 T l10 4).bind fun r84 =>
      sw_el r84 (fun r85 =>
        (sw_r2 r85 1).bind fun _u =>
        if r85 = 1 then
          some (.inr ((0, T)))
        else
          (w74 T l11 1).bind fun r92 =>
          sw_el r92 (fun r93 =>
            (sw_r2 r93 1).bind fun _u =>
            if r93 = 1 then
              (w74 T l11 2).bind fun r100 =>
              sw_el r100 (fun r101 =>
                (sw_r2 r101 l10).bind fun _u =>
                if r101 = l10 then
                  (sw_r2 l12 16).bind fun _u =>
                  if 16 < l12 then
                    some (.inr ((0, T)))
                  else
                    (sw_r2 l13 l10).bind fun _u =>
                    if l13 = l10 then
                      some (.inr ((0, T)))
                    else
                      (sw_r1 l13).bind fun _u =>
                      if l13 < 0 then
                        some (.inl ())
                      else
                        (w72 T l13 1).bind fun r114 =>
                        sw_el r114 (fun r115 =>
                          (sw_r1 r115).bind fun _u =>
                          if r115 = 0 then
                            some (.inr ((0, T)))
                          else
                            some (.inl ())
                        ) (fun E116 =>
                        none)
                else
                  some (.inr ((0, T)))
              ) (fun E102 =>
              none)
            else
              some (.inr ((0, T)))
          ) (fun E94 =>
          none)
      ) (fun E86 =>
      none)
theorem B72_150 {G : sp_G} {z n : Nat} (hn : 221 ≤ n) {T : sw_T} {l1 : Int} {l2 : Int} {l3 : Int} {l4 : Int} {l5 : Int} {l6 : Int} {l7 : Int} {l8 : Int} {l9 : Int} {l10 : Int} {l11 : Int} {l12 : Int} {l13 : Int} {K : sw_K} {res : (Unit) ⊕ (Int × sw_T)} {Q : sp_R → sp_M → Prop} (kk : ∀ s, res = .inl s → sq_go G 72 220 [some (.ref (z + 0)), some (.int (Int32.ofInt l1)), some (.int (Int32.ofInt l2)), some (.int (Int32.ofInt l3)), some (.int (Int32.ofInt l4)), some (.int (Int32.ofInt l5)), some (.int (Int32.ofInt l6)), some (.int (Int32.ofInt l7)), some (.int (Int32.ofInt l8)), some (.int (Int32.ofInt l9)), some (.int (Int32.ofInt l10)), none, some (.int (Int32.ofInt l12)), none, none, none] [] (sw_M z n sw_Ft T K) Q) (kr : ∀ r, res = .inr r → Q (.inl (some (.int (Int32.ofInt r.1)))) (sw_M z n sw_Ft r.2 K)) : ∀ (m : Nat), w204_150 T l1 l2 l3 l4 l5 l6 l7 l8 l9 l10 l11 l12 l13 m = some res → sq_go G 72 150 [some (.ref (z + 0)), some (.int (Int32.ofInt l1)), some (.int (Int32.ofInt l2)), some (.int (Int32.ofInt l3)), some (.int (Int32.ofInt l4)), some (.int (Int32.ofInt l5)), some (.int (Int32.ofInt l6)), some (.int (Int32.ofInt l7)), some (.int (Int32.ofInt l8)), some (.int (Int32.ofInt l9)), some (.int (Int32.ofInt l10)), some (.int (Int32.ofInt l11)), some (.int (Int32.ofInt l12)), some (.int (Int32.ofInt l13)), none, none] [] (sw_M z n sw_Ft T K) Q := by
  intro m
  induction m with
  | zero => intro  h; cases h
  | succ m ih =>
    intro  h
    rw [w204_150] at h
    refine go_l qd72_150 rfl ?_
    obtain ⟨_u, e67, h⟩ := sw_bind h
    by_cases hb68 : l11 < 0
    · replace h := sw_ifY hb68 h
      refine ga_zltY (t := 189) qd72_152 e67 hb68 rfl ?_
      refine go_l qd72_189 rfl ?_
      refine ga_k8 qd72_191 rfl ?_
      obtain ⟨_u, e69, h⟩ := sw_bind h
      by_cases hb70 : 16 < l12
      · replace h := sw_ifY hb70 h
        refine ga_cgtY (t := 218) qd72_193 e69 hb70 rfl ?_
        refine go_s qd72_218 rfl ?_
        exact ga_rb (u := ()) qd72_219 qr72 (by decide) (kr _ (sw_sj h).symm)
      · replace h := sw_ifN hb70 h
        refine ga_cgtN (t := 218) qd72_193 e69 hb70 rfl ?_
        refine go_l qd72_196 rfl ?_
        refine go_l qd72_198 rfl ?_
        obtain ⟨_u, e71, h⟩ := sw_bind h
        by_cases hb72 : l13 = l10
        · replace h := sw_ifY hb72 h
          refine ga_ceqY (t := 218) qd72_200 e71 hb72 rfl ?_
          refine go_s qd72_218 rfl ?_
          exact ga_rb (u := ()) qd72_219 qr72 (by decide) (kr _ (sw_sj h).symm)
        · replace h := sw_ifN hb72 h
          refine ga_ceqN (t := 218) qd72_200 e71 hb72 rfl ?_
          refine go_l qd72_203 rfl ?_
          obtain ⟨_u, e73, h⟩ := sw_bind h
          by_cases hb74 : l13 < 0
          · replace h := sw_ifY hb74 h
            refine ga_zltY (t := 220) qd72_205 e73 hb74 rfl ?_
            exact sq_weak (L := [some (.ref (z + 0)), some (.int (Int32.ofInt l1)), some (.int (Int32.ofInt l2)), some (.int (Int32.ofInt l3)), some (.int (Int32.ofInt l4)), some (.int (Int32.ofInt l5)), some (.int (Int32.ofInt l6)), some (.int (Int32.ofInt l7)), some (.int (Int32.ofInt l8)), some (.int (Int32.ofInt l9)), some (.int (Int32.ofInt l10)), none, some (.int (Int32.ofInt l12)), none, none, none]) ⟨rfl, rfl, rfl, rfl, rfl, rfl, rfl, rfl, rfl, rfl, rfl, rfl, trivial⟩ (kk _ (sw_sj h).symm)
          · replace h := sw_ifN hb74 h
            refine ga_zltN (t := 220) qd72_205 e73 hb74 rfl ?_
            refine go_l qd72_208 rfl ?_
            refine go_l qd72_209 rfl ?_
            refine go_s qd72_211 rfl ?_
            obtain ⟨r76, e75, h⟩ := sw_bind h
            refine ga_kv (a := 0) (as := [.int (Int32.ofInt l13), .int (Int32.ofInt 1)]) (rest := []) qd72_212 qk72_18 (sw_sl hn (by decide)) rfl rfl rfl (Nat.le_of_ble_eq_true rfl) (Nat.le_of_ble_eq_true rfl) rfl (A56 hn e75 (fun r77 g79 => ?_) (fun E78 g80 => ?_))
            · refine sw_bkv ?_
              replace h := sw_elL g79 h
              obtain ⟨_u, e81, h⟩ := sw_bind h
              by_cases hb82 : r77 = 0
              · replace h := sw_ifY hb82 h
                refine ga_zneY (t := 220) qd72_215 e81 hb82 rfl ?_
                refine go_s qd72_218 rfl ?_
                exact ga_rb (u := ()) qd72_219 qr72 (by decide) (kr _ (sw_sj h).symm)
              · replace h := sw_ifN hb82 h
                refine ga_zneN (t := 220) qd72_215 e81 hb82 rfl ?_
                exact sq_weak (L := [some (.ref (z + 0)), some (.int (Int32.ofInt l1)), some (.int (Int32.ofInt l2)), some (.int (Int32.ofInt l3)), some (.int (Int32.ofInt l4)), some (.int (Int32.ofInt l5)), some (.int (Int32.ofInt l6)), some (.int (Int32.ofInt l7)), some (.int (Int32.ofInt l8)), some (.int (Int32.ofInt l9)), some (.int (Int32.ofInt l10)), none, some (.int (Int32.ofInt l12)), none, none, none]) ⟨rfl, rfl, rfl, rfl, rfl, rfl, rfl, rfl, rfl, rfl, rfl, rfl, trivial⟩ (kk _ (sw_sj h).symm)
            · replace h := sw_elR g80 h
              cases h
    · replace h := sw_ifN hb68 h
      refine ga_zltN (t := 189) qd72_152 e67 hb68 rfl ?_
      refine go_l qd72_155 rfl ?_
      refine go_l qd72_156 rfl ?_
      refine go_s qd72_158 rfl ?_
      obtain ⟨r84, e83, h⟩ := sw_bind h
      refine ga_kv (a := 0) (as := [.int (Int32.ofInt l10), .int (Int32.ofInt 4)]) (rest := []) qd72_159 qk72_18 (sw_sl hn (by decide)) rfl rfl rfl (Nat.le_of_ble_eq_true rfl) (Nat.le_of_ble_eq_true rfl) rfl (A56 hn e83 (fun r85 g87 => ?_) (fun E86 g88 => ?_))
      · refine sw_bkv ?_
        replace h := sw_elL g87 h
        refine go_s qd72_162 rfl ?_
        obtain ⟨_u, e89, h⟩ := sw_bind h
        by_cases hb90 : r85 = 1
        · replace h := sw_ifY hb90 h
          refine ga_ceqY (t := 218) qd72_163 e89 hb90 rfl ?_
          refine go_s qd72_218 rfl ?_
          exact ga_rb (u := ()) qd72_219 qr72 (by decide) (kr _ (sw_sj h).symm)
        · replace h := sw_ifN hb90 h
          refine ga_ceqN (t := 218) qd72_163 e89 hb90 rfl ?_
          refine go_l qd72_166 rfl ?_
          refine go_l qd72_167 rfl ?_
          refine go_s qd72_169 rfl ?_
          obtain ⟨r92, e91, h⟩ := sw_bind h
          refine ga_kv (a := 0) (as := [.int (Int32.ofInt l11), .int (Int32.ofInt 1)]) (rest := []) qd72_170 qk72_25 (sw_sl hn (by decide)) rfl rfl rfl (Nat.le_of_ble_eq_true rfl) (Nat.le_of_ble_eq_true rfl) rfl (A58 hn e91 (fun r93 g95 => ?_) (fun E94 g96 => ?_))
          · refine sw_bkv ?_
            replace h := sw_elL g95 h
            refine go_s qd72_173 rfl ?_
            obtain ⟨_u, e97, h⟩ := sw_bind h
            by_cases hb98 : r93 = 1
            · replace h := sw_ifY hb98 h
              refine ga_cneY (t := 218) qd72_174 e97 hb98 rfl ?_
              refine go_l qd72_177 rfl ?_
              refine go_l qd72_178 rfl ?_
              refine go_s qd72_180 rfl ?_
              obtain ⟨r100, e99, h⟩ := sw_bind h
              refine ga_kv (a := 0) (as := [.int (Int32.ofInt l11), .int (Int32.ofInt 2)]) (rest := []) qd72_181 qk72_25 (sw_sl hn (by decide)) rfl rfl rfl (Nat.le_of_ble_eq_true rfl) (Nat.le_of_ble_eq_true rfl) rfl (A58 hn e99 (fun r101 g103 => ?_) (fun E102 g104 => ?_))
              · refine sw_bkv ?_
                replace h := sw_elL g103 h
                refine go_l qd72_184 rfl ?_
                obtain ⟨_u, e105, h⟩ := sw_bind h
                by_cases hb106 : r101 = l10
                · replace h := sw_ifY hb106 h
                  refine ga_cneY (t := 218) qd72_186 e105 hb106 rfl ?_
                  refine go_l qd72_189 rfl ?_
                  refine ga_k8 qd72_191 rfl ?_
                  obtain ⟨_u, e107, h⟩ := sw_bind h
                  by_cases hb108 : 16 < l12
                  · replace h := sw_ifY hb108 h
                    refine ga_cgtY (t := 218) qd72_193 e107 hb108 rfl ?_
                    refine go_s qd72_218 rfl ?_
                    exact ga_rb (u := ()) qd72_219 qr72 (by decide) (kr _ (sw_sj h).symm)
                  · replace h := sw_ifN hb108 h
                    refine ga_cgtN (t := 218) qd72_193 e107 hb108 rfl ?_
                    refine go_l qd72_196 rfl ?_
                    refine go_l qd72_198 rfl ?_
                    obtain ⟨_u, e109, h⟩ := sw_bind h
                    by_cases hb110 : l13 = l10
                    · replace h := sw_ifY hb110 h
                      refine ga_ceqY (t := 218) qd72_200 e109 hb110 rfl ?_
                      refine go_s qd72_218 rfl ?_
                      exact ga_rb (u := ()) qd72_219 qr72 (by decide) (kr _ (sw_sj h).symm)
                    · replace h := sw_ifN hb110 h
                      refine ga_ceqN (t := 218) qd72_200 e109 hb110 rfl ?_
                      refine go_l qd72_203 rfl ?_
                      obtain ⟨_u, e111, h⟩ := sw_bind h
                      by_cases hb112 : l13 < 0
                      · replace h := sw_ifY hb112 h
                        refine ga_zltY (t := 220) qd72_205 e111 hb112 rfl ?_
                        exact sq_weak (L := [some (.ref (z + 0)), some (.int (Int32.ofInt l1)), some (.int (Int32.ofInt l2)), some (.int (Int32.ofInt l3)), some (.int (Int32.ofInt l4)), some (.int (Int32.ofInt l5)), some (.int (Int32.ofInt l6)), some (.int (Int32.ofInt l7)), some (.int (Int32.ofInt l8)), some (.int (Int32.ofInt l9)), some (.int (Int32.ofInt l10)), none, some (.int (Int32.ofInt l12)), none, none, none]) ⟨rfl, rfl, rfl, rfl, rfl, rfl, rfl, rfl, rfl, rfl, rfl, rfl, trivial⟩ (kk _ (sw_sj h).symm)
                      · replace h := sw_ifN hb112 h
                        refine ga_zltN (t := 220) qd72_205 e111 hb112 rfl ?_
                        refine go_l qd72_208 rfl ?_
                        refine go_l qd72_209 rfl ?_
                        refine go_s qd72_211 rfl ?_
                        obtain ⟨r114, e113, h⟩ := sw_bind h
                        refine ga_kv (a := 0) (as := [.int (Int32.ofInt l13), .int (Int32.ofInt 1)]) (rest := []) qd72_212 qk72_18 (sw_sl hn (by decide)) rfl rfl rfl (Nat.le_of_ble_eq_true rfl) (Nat.le_of_ble_eq_true rfl) rfl (A56 hn e113 (fun r115 g117 => ?_) (fun E116 g118 => ?_))
                        · refine sw_bkv ?_
                          replace h := sw_elL g117 h
                          obtain ⟨_u, e119, h⟩ := sw_bind h
                          by_cases hb120 : r115 = 0
                          · replace h := sw_ifY hb120 h
                            refine ga_zneY (t := 220) qd72_215 e119 hb120 rfl ?_
                            refine go_s qd72_218 rfl ?_
                            exact ga_rb (u := ()) qd72_219 qr72 (by decide) (kr _ (sw_sj h).symm)
                          · replace h := sw_ifN hb120 h
                            refine ga_zneN (t := 220) qd72_215 e119 hb120 rfl ?_
                            exact sq_weak (L := [some (.ref (z + 0)), some (.int (Int32.ofInt l1)), some (.int (Int32.ofInt l2)), some (.int (Int32.ofInt l3)), some (.int (Int32.ofInt l4)), some (.int (Int32.ofInt l5)), some (.int (Int32.ofInt l6)), some (.int (Int32.ofInt l7)), some (.int (Int32.ofInt l8)), some (.int (Int32.ofInt l9)), some (.int (Int32.ofInt l10)), none, some (.int (Int32.ofInt l12)), none, none, none]) ⟨rfl, rfl, rfl, rfl, rfl, rfl, rfl, rfl, rfl, rfl, rfl, rfl, trivial⟩ (kk _ (sw_sj h).symm)
                        · replace h := sw_elR g118 h
                          cases h
                · replace h := sw_ifN hb106 h
                  refine ga_cneN (t := 218) qd72_186 e105 hb106 rfl ?_
                  refine go_s qd72_218 rfl ?_
                  exact ga_rb (u := ()) qd72_219 qr72 (by decide) (kr _ (sw_sj h).symm)
              · replace h := sw_elR g104 h
                cases h
            · replace h := sw_ifN hb98 h
              refine ga_cneN (t := 218) qd72_174 e97 hb98 rfl ?_
              refine go_s qd72_218 rfl ?_
              exact ga_rb (u := ()) qd72_219 qr72 (by decide) (kr _ (sw_sj h).symm)
          · replace h := sw_elR g96 h
            cases h
      · replace h := sw_elR g88 h
        cases h
def w204_223 (T : sw_T) (l1 : Int) (l2 : Int) (l3 : Int) (l4 : Int) (l5 : Int) (l6 : Int) (l7 : Int) (l8 : Int) (l9 : Int) (l10 : Int) (l12 : Int) : Nat → Int → Option ((Unit) ⊕ (Int × sw_T))
  | 0, _ => none
  | m + 1, l14 =>
    (sw_r2 l14 l12).bind fun _u =>
    if l14 < l12 then
      (w73 T l10 l14).bind fun r128 =>
      sw_el r128 (fun r129 =>
        (w74 T r129 1).bind fun r134 =>
        sw_el r134 (fun r135 =>
          (sw_r1 r135).bind fun _u =>
          if r135 = 0 then
            (w74 T r129 2).bind fun r142 =>
            sw_el r142 (fun r143 =>
              (sw_r2 r143 l10).bind fun _u =>
              if r143 = l10 then
                w204_223 T l1 l2 l3 l4 l5 l6 l7 l8 l9 l10 l12 m (l14 + 1)
              else
                some (.inr ((0, T)))
            ) (fun E144 =>
            none)
          else
            some (.inr ((0, T)))
        ) (fun E136 =>
        none)
      ) (fun E130 =>
      none)
    else
      some (.inl ())
theorem B72_223 {G : sp_G} {z n : Nat} (hn : 221 ≤ n) {T : sw_T} {l1 : Int} {l2 : Int} {l3 : Int} {l4 : Int} {l5 : Int} {l6 : Int} {l7 : Int} {l8 : Int} {l9 : Int} {l10 : Int} {l12 : Int} {K : sw_K} {res : (Unit) ⊕ (Int × sw_T)} {Q : sp_R → sp_M → Prop} (kk : ∀ s, res = .inl s → sq_go G 72 270 [some (.ref (z + 0)), some (.int (Int32.ofInt l1)), some (.int (Int32.ofInt l2)), some (.int (Int32.ofInt l3)), some (.int (Int32.ofInt l4)), some (.int (Int32.ofInt l5)), some (.int (Int32.ofInt l6)), some (.int (Int32.ofInt l7)), some (.int (Int32.ofInt l8)), some (.int (Int32.ofInt l9)), some (.int (Int32.ofInt l10)), none, none, none, none, none] [] (sw_M z n sw_Ft T K) Q) (kr : ∀ r, res = .inr r → Q (.inl (some (.int (Int32.ofInt r.1)))) (sw_M z n sw_Ft r.2 K)) : ∀ (m : Nat) (l14 : Int), w204_223 T l1 l2 l3 l4 l5 l6 l7 l8 l9 l10 l12 m l14 = some res → sq_go G 72 223 [some (.ref (z + 0)), some (.int (Int32.ofInt l1)), some (.int (Int32.ofInt l2)), some (.int (Int32.ofInt l3)), some (.int (Int32.ofInt l4)), some (.int (Int32.ofInt l5)), some (.int (Int32.ofInt l6)), some (.int (Int32.ofInt l7)), some (.int (Int32.ofInt l8)), some (.int (Int32.ofInt l9)), some (.int (Int32.ofInt l10)), none, some (.int (Int32.ofInt l12)), none, some (.int (Int32.ofInt l14)), none] [] (sw_M z n sw_Ft T K) Q := by
  intro m
  induction m with
  | zero => intro l14 h; cases h
  | succ m ih =>
    intro l14 h
    rw [w204_223] at h
    refine go_l qd72_223 rfl ?_
    refine go_l qd72_225 rfl ?_
    obtain ⟨_u, e125, h⟩ := sw_bind h
    by_cases hb126 : l14 < l12
    · replace h := sw_ifY hb126 h
      refine ga_cgeY (t := 270) qd72_227 e125 hb126 rfl ?_
      refine go_l qd72_230 rfl ?_
      refine go_l qd72_231 rfl ?_
      refine go_l qd72_233 rfl ?_
      obtain ⟨r128, e127, h⟩ := sw_bind h
      refine ga_kv (a := 0) (as := [.int (Int32.ofInt l10), .int (Int32.ofInt l14)]) (rest := []) qd72_235 qk72_22 (sw_sl hn (by decide)) rfl rfl rfl (Nat.le_of_ble_eq_true rfl) (Nat.le_of_ble_eq_true rfl) rfl (A57 hn e127 (fun r129 g131 => ?_) (fun E130 g132 => ?_))
      · refine sw_bkv ?_
        replace h := sw_elL g131 h
        refine go_l (L' := [some (.ref (z + 0)), some (.int (Int32.ofInt l1)), some (.int (Int32.ofInt l2)), some (.int (Int32.ofInt l3)), some (.int (Int32.ofInt l4)), some (.int (Int32.ofInt l5)), some (.int (Int32.ofInt l6)), some (.int (Int32.ofInt l7)), some (.int (Int32.ofInt l8)), some (.int (Int32.ofInt l9)), some (.int (Int32.ofInt l10)), none, some (.int (Int32.ofInt l12)), none, some (.int (Int32.ofInt l14)), some (.int (Int32.ofInt r129))]) (st' := []) qd72_238 rfl ?_
        refine go_l qd72_240 rfl ?_
        refine go_l qd72_241 rfl ?_
        refine go_s qd72_243 rfl ?_
        obtain ⟨r134, e133, h⟩ := sw_bind h
        refine ga_kv (a := 0) (as := [.int (Int32.ofInt r129), .int (Int32.ofInt 1)]) (rest := []) qd72_244 qk72_25 (sw_sl hn (by decide)) rfl rfl rfl (Nat.le_of_ble_eq_true rfl) (Nat.le_of_ble_eq_true rfl) rfl (A58 hn e133 (fun r135 g137 => ?_) (fun E136 g138 => ?_))
        · refine sw_bkv ?_
          replace h := sw_elL g137 h
          obtain ⟨_u, e139, h⟩ := sw_bind h
          by_cases hb140 : r135 = 0
          · replace h := sw_ifY hb140 h
            refine ga_zneY (t := 262) qd72_247 e139 hb140 rfl ?_
            refine go_l qd72_250 rfl ?_
            refine go_l qd72_251 rfl ?_
            refine go_s qd72_253 rfl ?_
            obtain ⟨r142, e141, h⟩ := sw_bind h
            refine ga_kv (a := 0) (as := [.int (Int32.ofInt r129), .int (Int32.ofInt 2)]) (rest := []) qd72_254 qk72_25 (sw_sl hn (by decide)) rfl rfl rfl (Nat.le_of_ble_eq_true rfl) (Nat.le_of_ble_eq_true rfl) rfl (A58 hn e141 (fun r143 g145 => ?_) (fun E144 g146 => ?_))
            · refine sw_bkv ?_
              replace h := sw_elL g145 h
              refine go_l qd72_257 rfl ?_
              obtain ⟨_u, e147, h⟩ := sw_bind h
              by_cases hb148 : r143 = l10
              · replace h := sw_ifY hb148 h
                refine ga_ceqY (t := 264) qd72_259 e147 hb148 rfl ?_
                refine ga_ii (L' := [some (.ref (z + 0)), some (.int (Int32.ofInt l1)), some (.int (Int32.ofInt l2)), some (.int (Int32.ofInt l3)), some (.int (Int32.ofInt l4)), some (.int (Int32.ofInt l5)), some (.int (Int32.ofInt l6)), some (.int (Int32.ofInt l7)), some (.int (Int32.ofInt l8)), some (.int (Int32.ofInt l9)), some (.int (Int32.ofInt l10)), none, some (.int (Int32.ofInt l12)), none, some (.int (Int32.ofInt (l14 + 1))), some (.int (Int32.ofInt r129))]) qd72_264 rfl rfl ?_
                refine ga_jp (t := 223) qd72_267 rfl ?_
                exact sq_weak (L := [some (.ref (z + 0)), some (.int (Int32.ofInt l1)), some (.int (Int32.ofInt l2)), some (.int (Int32.ofInt l3)), some (.int (Int32.ofInt l4)), some (.int (Int32.ofInt l5)), some (.int (Int32.ofInt l6)), some (.int (Int32.ofInt l7)), some (.int (Int32.ofInt l8)), some (.int (Int32.ofInt l9)), some (.int (Int32.ofInt l10)), none, some (.int (Int32.ofInt l12)), none, some (.int (Int32.ofInt (l14 + 1))), none]) ⟨rfl, rfl, rfl, rfl, rfl, rfl, rfl, rfl, rfl, rfl, rfl, rfl, rfl, trivial⟩ (ih _ h)
              · replace h := sw_ifN hb148 h
                refine ga_ceqN (t := 264) qd72_259 e147 hb148 rfl ?_
                refine go_s qd72_262 rfl ?_
                exact ga_rb (u := ()) qd72_263 qr72 (by decide) (kr _ (sw_sj h).symm)
            · replace h := sw_elR g146 h
              cases h
          · replace h := sw_ifN hb140 h
            refine ga_zneN (t := 262) qd72_247 e139 hb140 rfl ?_
            refine go_s qd72_262 rfl ?_
            exact ga_rb (u := ()) qd72_263 qr72 (by decide) (kr _ (sw_sj h).symm)
        · replace h := sw_elR g138 h
          cases h
      · replace h := sw_elR g132 h
        cases h
    · replace h := sw_ifN hb126 h
      refine ga_cgeN (t := 270) qd72_227 e125 hb126 rfl ?_
      exact sq_weak (L := [some (.ref (z + 0)), some (.int (Int32.ofInt l1)), some (.int (Int32.ofInt l2)), some (.int (Int32.ofInt l3)), some (.int (Int32.ofInt l4)), some (.int (Int32.ofInt l5)), some (.int (Int32.ofInt l6)), some (.int (Int32.ofInt l7)), some (.int (Int32.ofInt l8)), some (.int (Int32.ofInt l9)), some (.int (Int32.ofInt l10)), none, none, none, none, none]) ⟨rfl, rfl, rfl, rfl, rfl, rfl, rfl, rfl, rfl, rfl, rfl, trivial⟩ (kk _ (sw_sj h).symm)
def w204_35 (T : sw_T) (l1 : Int) (l2 : Int) : Nat → Int → Int → Int → Int → Int → Int → Int → Int → Option ((Int × Int × Int × Int × Int × Int × Int) ⊕ (Int × sw_T))
  | 0, _, _, _, _, _, _, _, _ => none
  | m + 1, l3, l4, l5, l6, l7, l8, l9, l10 =>
    (sw_r2 l10 l1).bind fun _u =>
    if l10 < l1 then
      (w72 T l10 2).bind fun r16 =>
      sw_el r16 (fun r17 =>
        (w72 T l10 1).bind fun r22 =>
        sw_el r22 (fun r23 =>
          (w204_64 T l1 l2 (l3 + r23) l5 l6 l7 l8 l9 l10 r17 r23 sw_N l4).bind fun x29 =>
          (w72 T l10 5).bind fun r32 =>
          sw_el r32 (fun r33 =>
            (w72 T l10 6).bind fun r38 =>
            sw_el r38 (fun r39 =>
              (w72 T l10 8).bind fun r44 =>
              sw_el r44 (fun r45 =>
                (w72 T l10 4).bind fun r50 =>
                sw_el r50 (fun r51 =>
                  (w72 T l10 9).bind fun r56 =>
                  sw_el r56 (fun r57 =>
                    (w77 T l10).bind fun r62 =>
                    sw_el r62 (fun r63 =>
                      (w204_150 T l1 l2 (l3 + r23) x29 (l5 + r33) (l6 + r39) (l7 + r45) (l8 + r51) (l9 + r57) l10 r17 r23 r63 sw_N).bind fun x121 =>
                      sw_el x121 (fun x123 =>
                        (w204_223 T l1 l2 (l3 + r23) x29 (l5 + r33) (l6 + r39) (l7 + r45) (l8 + r51) (l9 + r57) l10 r23 sw_N 0).bind fun x149 =>
                        sw_el x149 (fun x151 =>
                          w204_35 T l1 l2 m (l3 + r23) x29 (l5 + r33) (l6 + r39) (l7 + r45) (l8 + r51) (l9 + r57) (l10 + 1)
                        ) (fun r => some (.inr r))
                      ) (fun r => some (.inr r))
                    ) (fun E64 =>
                    none)
                  ) (fun E58 =>
                  none)
                ) (fun E52 =>
                none)
              ) (fun E46 =>
              none)
            ) (fun E40 =>
            none)
          ) (fun E34 =>
          none)
        ) (fun E24 =>
        none)
      ) (fun E18 =>
      none)
    else
      some (.inl (l3, l4, l5, l6, l7, l8, l9))
theorem B72_35 {G : sp_G} {z n : Nat} (hn : 221 ≤ n) {T : sw_T} {l1 : Int} {l2 : Int} {K : sw_K} {res : (Int × Int × Int × Int × Int × Int × Int) ⊕ (Int × sw_T)} {Q : sp_R → sp_M → Prop} (kk : ∀ s, res = .inl s → sq_go G 72 276 [some (.ref (z + 0)), none, some (.int (Int32.ofInt l2)), some (.int (Int32.ofInt s.1)), some (.int (Int32.ofInt s.2.1)), some (.int (Int32.ofInt s.2.2.1)), some (.int (Int32.ofInt s.2.2.2.1)), some (.int (Int32.ofInt s.2.2.2.2.1)), some (.int (Int32.ofInt s.2.2.2.2.2.1)), some (.int (Int32.ofInt s.2.2.2.2.2.2)), none, none, none, none, none, none] [] (sw_M z n sw_Ft T K) Q) (kr : ∀ r, res = .inr r → Q (.inl (some (.int (Int32.ofInt r.1)))) (sw_M z n sw_Ft r.2 K)) : ∀ (m : Nat) (l3 : Int) (l4 : Int) (l5 : Int) (l6 : Int) (l7 : Int) (l8 : Int) (l9 : Int) (l10 : Int), w204_35 T l1 l2 m l3 l4 l5 l6 l7 l8 l9 l10 = some res → sq_go G 72 35 [some (.ref (z + 0)), some (.int (Int32.ofInt l1)), some (.int (Int32.ofInt l2)), some (.int (Int32.ofInt l3)), some (.int (Int32.ofInt l4)), some (.int (Int32.ofInt l5)), some (.int (Int32.ofInt l6)), some (.int (Int32.ofInt l7)), some (.int (Int32.ofInt l8)), some (.int (Int32.ofInt l9)), some (.int (Int32.ofInt l10)), none, none, none, none, none] [] (sw_M z n sw_Ft T K) Q := by
  intro m
  induction m with
  | zero => intro l3 l4 l5 l6 l7 l8 l9 l10 h; cases h
  | succ m ih =>
    intro l3 l4 l5 l6 l7 l8 l9 l10 h
    rw [w204_35] at h
    refine go_l qd72_35 rfl ?_
    refine go_l qd72_37 rfl ?_
    obtain ⟨_u, e13, h⟩ := sw_bind h
    by_cases hb14 : l10 < l1
    · replace h := sw_ifY hb14 h
      refine ga_cgeY (t := 276) qd72_38 e13 hb14 rfl ?_
      refine go_l qd72_41 rfl ?_
      refine go_l qd72_42 rfl ?_
      refine go_s qd72_44 rfl ?_
      obtain ⟨r16, e15, h⟩ := sw_bind h
      refine ga_kv (a := 0) (as := [.int (Int32.ofInt l10), .int (Int32.ofInt 2)]) (rest := []) qd72_45 qk72_18 (sw_sl hn (by decide)) rfl rfl rfl (Nat.le_of_ble_eq_true rfl) (Nat.le_of_ble_eq_true rfl) rfl (A56 hn e15 (fun r17 g19 => ?_) (fun E18 g20 => ?_))
      · refine sw_bkv ?_
        replace h := sw_elL g19 h
        refine go_l (L' := [some (.ref (z + 0)), some (.int (Int32.ofInt l1)), some (.int (Int32.ofInt l2)), some (.int (Int32.ofInt l3)), some (.int (Int32.ofInt l4)), some (.int (Int32.ofInt l5)), some (.int (Int32.ofInt l6)), some (.int (Int32.ofInt l7)), some (.int (Int32.ofInt l8)), some (.int (Int32.ofInt l9)), some (.int (Int32.ofInt l10)), some (.int (Int32.ofInt r17)), none, none, none, none]) (st' := []) qd72_48 rfl ?_
        refine go_l qd72_50 rfl ?_
        refine go_l qd72_51 rfl ?_
        refine go_s qd72_53 rfl ?_
        obtain ⟨r22, e21, h⟩ := sw_bind h
        refine ga_kv (a := 0) (as := [.int (Int32.ofInt l10), .int (Int32.ofInt 1)]) (rest := []) qd72_54 qk72_18 (sw_sl hn (by decide)) rfl rfl rfl (Nat.le_of_ble_eq_true rfl) (Nat.le_of_ble_eq_true rfl) rfl (A56 hn e21 (fun r23 g25 => ?_) (fun E24 g26 => ?_))
        · refine sw_bkv ?_
          replace h := sw_elL g25 h
          refine go_l (L' := [some (.ref (z + 0)), some (.int (Int32.ofInt l1)), some (.int (Int32.ofInt l2)), some (.int (Int32.ofInt l3)), some (.int (Int32.ofInt l4)), some (.int (Int32.ofInt l5)), some (.int (Int32.ofInt l6)), some (.int (Int32.ofInt l7)), some (.int (Int32.ofInt l8)), some (.int (Int32.ofInt l9)), some (.int (Int32.ofInt l10)), some (.int (Int32.ofInt r17)), some (.int (Int32.ofInt r23)), none, none, none]) (st' := []) qd72_57 rfl ?_
          refine go_l qd72_59 rfl ?_
          refine go_l qd72_60 rfl ?_
          refine ga_iadd qd72_62 ?_
          refine go_l (L' := [some (.ref (z + 0)), some (.int (Int32.ofInt l1)), some (.int (Int32.ofInt l2)), some (.int (Int32.ofInt (l3 + r23))), some (.int (Int32.ofInt l4)), some (.int (Int32.ofInt l5)), some (.int (Int32.ofInt l6)), some (.int (Int32.ofInt l7)), some (.int (Int32.ofInt l8)), some (.int (Int32.ofInt l9)), some (.int (Int32.ofInt l10)), some (.int (Int32.ofInt r17)), some (.int (Int32.ofInt r23)), none, none, none]) (st' := []) qd72_63 rfl ?_
          obtain ⟨x29, e30, h⟩ := sw_bind h
          refine sq_weak (L := [some (.ref (z + 0)), some (.int (Int32.ofInt l1)), some (.int (Int32.ofInt l2)), some (.int (Int32.ofInt (l3 + r23))), some (.int (Int32.ofInt l4)), some (.int (Int32.ofInt l5)), some (.int (Int32.ofInt l6)), some (.int (Int32.ofInt l7)), some (.int (Int32.ofInt l8)), some (.int (Int32.ofInt l9)), some (.int (Int32.ofInt l10)), some (.int (Int32.ofInt r17)), some (.int (Int32.ofInt r23)), none, none, none]) ⟨rfl, rfl, rfl, rfl, rfl, rfl, rfl, rfl, rfl, rfl, rfl, rfl, rfl, trivial⟩ (B72_64 hn (res := x29) ?_ _ _ e30)
          refine go_l qd72_79 rfl ?_
          refine go_l qd72_81 rfl ?_
          refine go_l qd72_82 rfl ?_
          refine go_s qd72_84 rfl ?_
          obtain ⟨r32, e31, h⟩ := sw_bind h
          refine ga_kv (a := 0) (as := [.int (Int32.ofInt l10), .int (Int32.ofInt 5)]) (rest := [.int (Int32.ofInt l5)]) qd72_85 qk72_18 (sw_sl hn (by decide)) rfl rfl rfl (Nat.le_of_ble_eq_true rfl) (Nat.le_of_ble_eq_true rfl) rfl (A56 hn e31 (fun r33 g35 => ?_) (fun E34 g36 => ?_))
          · refine sw_bkv ?_
            replace h := sw_elL g35 h
            refine ga_iadd qd72_88 ?_
            refine go_l (L' := [some (.ref (z + 0)), some (.int (Int32.ofInt l1)), some (.int (Int32.ofInt l2)), some (.int (Int32.ofInt (l3 + r23))), some (.int (Int32.ofInt x29)), some (.int (Int32.ofInt (l5 + r33))), some (.int (Int32.ofInt l6)), some (.int (Int32.ofInt l7)), some (.int (Int32.ofInt l8)), some (.int (Int32.ofInt l9)), some (.int (Int32.ofInt l10)), some (.int (Int32.ofInt r17)), some (.int (Int32.ofInt r23)), none, none, none]) (st' := []) qd72_89 rfl ?_
            refine go_l qd72_91 rfl ?_
            refine go_l qd72_93 rfl ?_
            refine go_l qd72_94 rfl ?_
            refine ga_k8 qd72_96 rfl ?_
            obtain ⟨r38, e37, h⟩ := sw_bind h
            refine ga_kv (a := 0) (as := [.int (Int32.ofInt l10), .int (Int32.ofInt 6)]) (rest := [.int (Int32.ofInt l6)]) qd72_98 qk72_18 (sw_sl hn (by decide)) rfl rfl rfl (Nat.le_of_ble_eq_true rfl) (Nat.le_of_ble_eq_true rfl) rfl (A56 hn e37 (fun r39 g41 => ?_) (fun E40 g42 => ?_))
            · refine sw_bkv ?_
              replace h := sw_elL g41 h
              refine ga_iadd qd72_101 ?_
              refine go_l (L' := [some (.ref (z + 0)), some (.int (Int32.ofInt l1)), some (.int (Int32.ofInt l2)), some (.int (Int32.ofInt (l3 + r23))), some (.int (Int32.ofInt x29)), some (.int (Int32.ofInt (l5 + r33))), some (.int (Int32.ofInt (l6 + r39))), some (.int (Int32.ofInt l7)), some (.int (Int32.ofInt l8)), some (.int (Int32.ofInt l9)), some (.int (Int32.ofInt l10)), some (.int (Int32.ofInt r17)), some (.int (Int32.ofInt r23)), none, none, none]) (st' := []) qd72_102 rfl ?_
              refine go_l qd72_104 rfl ?_
              refine go_l qd72_106 rfl ?_
              refine go_l qd72_107 rfl ?_
              refine ga_k8 qd72_109 rfl ?_
              obtain ⟨r44, e43, h⟩ := sw_bind h
              refine ga_kv (a := 0) (as := [.int (Int32.ofInt l10), .int (Int32.ofInt 8)]) (rest := [.int (Int32.ofInt l7)]) qd72_111 qk72_18 (sw_sl hn (by decide)) rfl rfl rfl (Nat.le_of_ble_eq_true rfl) (Nat.le_of_ble_eq_true rfl) rfl (A56 hn e43 (fun r45 g47 => ?_) (fun E46 g48 => ?_))
              · refine sw_bkv ?_
                replace h := sw_elL g47 h
                refine ga_iadd qd72_114 ?_
                refine go_l (L' := [some (.ref (z + 0)), some (.int (Int32.ofInt l1)), some (.int (Int32.ofInt l2)), some (.int (Int32.ofInt (l3 + r23))), some (.int (Int32.ofInt x29)), some (.int (Int32.ofInt (l5 + r33))), some (.int (Int32.ofInt (l6 + r39))), some (.int (Int32.ofInt (l7 + r45))), some (.int (Int32.ofInt l8)), some (.int (Int32.ofInt l9)), some (.int (Int32.ofInt l10)), some (.int (Int32.ofInt r17)), some (.int (Int32.ofInt r23)), none, none, none]) (st' := []) qd72_115 rfl ?_
                refine go_l qd72_117 rfl ?_
                refine go_l qd72_119 rfl ?_
                refine go_l qd72_120 rfl ?_
                refine go_s qd72_122 rfl ?_
                obtain ⟨r50, e49, h⟩ := sw_bind h
                refine ga_kv (a := 0) (as := [.int (Int32.ofInt l10), .int (Int32.ofInt 4)]) (rest := [.int (Int32.ofInt l8)]) qd72_123 qk72_18 (sw_sl hn (by decide)) rfl rfl rfl (Nat.le_of_ble_eq_true rfl) (Nat.le_of_ble_eq_true rfl) rfl (A56 hn e49 (fun r51 g53 => ?_) (fun E52 g54 => ?_))
                · refine sw_bkv ?_
                  replace h := sw_elL g53 h
                  refine ga_iadd qd72_126 ?_
                  refine go_l (L' := [some (.ref (z + 0)), some (.int (Int32.ofInt l1)), some (.int (Int32.ofInt l2)), some (.int (Int32.ofInt (l3 + r23))), some (.int (Int32.ofInt x29)), some (.int (Int32.ofInt (l5 + r33))), some (.int (Int32.ofInt (l6 + r39))), some (.int (Int32.ofInt (l7 + r45))), some (.int (Int32.ofInt (l8 + r51))), some (.int (Int32.ofInt l9)), some (.int (Int32.ofInt l10)), some (.int (Int32.ofInt r17)), some (.int (Int32.ofInt r23)), none, none, none]) (st' := []) qd72_127 rfl ?_
                  refine go_l qd72_129 rfl ?_
                  refine go_l qd72_131 rfl ?_
                  refine go_l qd72_132 rfl ?_
                  refine ga_k8 qd72_134 rfl ?_
                  obtain ⟨r56, e55, h⟩ := sw_bind h
                  refine ga_kv (a := 0) (as := [.int (Int32.ofInt l10), .int (Int32.ofInt 9)]) (rest := [.int (Int32.ofInt l9)]) qd72_136 qk72_18 (sw_sl hn (by decide)) rfl rfl rfl (Nat.le_of_ble_eq_true rfl) (Nat.le_of_ble_eq_true rfl) rfl (A56 hn e55 (fun r57 g59 => ?_) (fun E58 g60 => ?_))
                  · refine sw_bkv ?_
                    replace h := sw_elL g59 h
                    refine ga_iadd qd72_139 ?_
                    refine go_l (L' := [some (.ref (z + 0)), some (.int (Int32.ofInt l1)), some (.int (Int32.ofInt l2)), some (.int (Int32.ofInt (l3 + r23))), some (.int (Int32.ofInt x29)), some (.int (Int32.ofInt (l5 + r33))), some (.int (Int32.ofInt (l6 + r39))), some (.int (Int32.ofInt (l7 + r45))), some (.int (Int32.ofInt (l8 + r51))), some (.int (Int32.ofInt (l9 + r57))), some (.int (Int32.ofInt l10)), some (.int (Int32.ofInt r17)), some (.int (Int32.ofInt r23)), none, none, none]) (st' := []) qd72_140 rfl ?_
                    refine go_l qd72_142 rfl ?_
                    refine go_l qd72_143 rfl ?_
                    obtain ⟨r62, e61, h⟩ := sw_bind h
                    refine ga_kv (a := 0) (as := [.int (Int32.ofInt l10)]) (rest := []) qd72_145 qk72_54 (sw_sl hn (by decide)) rfl rfl rfl (Nat.le_of_ble_eq_true rfl) (Nat.le_of_ble_eq_true rfl) rfl (A61 hn e61 (fun r63 g65 => ?_) (fun E64 g66 => ?_))
                    · refine sw_bkv ?_
                      replace h := sw_elL g65 h
                      refine go_l (L' := [some (.ref (z + 0)), some (.int (Int32.ofInt l1)), some (.int (Int32.ofInt l2)), some (.int (Int32.ofInt (l3 + r23))), some (.int (Int32.ofInt x29)), some (.int (Int32.ofInt (l5 + r33))), some (.int (Int32.ofInt (l6 + r39))), some (.int (Int32.ofInt (l7 + r45))), some (.int (Int32.ofInt (l8 + r51))), some (.int (Int32.ofInt (l9 + r57))), some (.int (Int32.ofInt l10)), some (.int (Int32.ofInt r17)), some (.int (Int32.ofInt r23)), some (.int (Int32.ofInt r63)), none, none]) (st' := []) qd72_148 rfl ?_
                      obtain ⟨x121, e122, h⟩ := sw_bind h
                      refine sq_weak (L := [some (.ref (z + 0)), some (.int (Int32.ofInt l1)), some (.int (Int32.ofInt l2)), some (.int (Int32.ofInt (l3 + r23))), some (.int (Int32.ofInt x29)), some (.int (Int32.ofInt (l5 + r33))), some (.int (Int32.ofInt (l6 + r39))), some (.int (Int32.ofInt (l7 + r45))), some (.int (Int32.ofInt (l8 + r51))), some (.int (Int32.ofInt (l9 + r57))), some (.int (Int32.ofInt l10)), some (.int (Int32.ofInt r17)), some (.int (Int32.ofInt r23)), some (.int (Int32.ofInt r63)), none, none]) ⟨rfl, rfl, rfl, rfl, rfl, rfl, rfl, rfl, rfl, rfl, rfl, rfl, rfl, rfl, trivial⟩ (B72_150 hn (res := x121) (fun x123 g124 => ?_) (fun r g124 => ?_) _  e122)
                      · replace h := sw_elL g124 h
                        refine go_s qd72_220 rfl ?_
                        refine go_l (L' := [some (.ref (z + 0)), some (.int (Int32.ofInt l1)), some (.int (Int32.ofInt l2)), some (.int (Int32.ofInt (l3 + r23))), some (.int (Int32.ofInt x29)), some (.int (Int32.ofInt (l5 + r33))), some (.int (Int32.ofInt (l6 + r39))), some (.int (Int32.ofInt (l7 + r45))), some (.int (Int32.ofInt (l8 + r51))), some (.int (Int32.ofInt (l9 + r57))), some (.int (Int32.ofInt l10)), none, some (.int (Int32.ofInt r23)), none, some (.int (Int32.ofInt 0)), none]) (st' := []) qd72_221 rfl ?_
                        obtain ⟨x149, e150, h⟩ := sw_bind h
                        refine sq_weak (L := [some (.ref (z + 0)), some (.int (Int32.ofInt l1)), some (.int (Int32.ofInt l2)), some (.int (Int32.ofInt (l3 + r23))), some (.int (Int32.ofInt x29)), some (.int (Int32.ofInt (l5 + r33))), some (.int (Int32.ofInt (l6 + r39))), some (.int (Int32.ofInt (l7 + r45))), some (.int (Int32.ofInt (l8 + r51))), some (.int (Int32.ofInt (l9 + r57))), some (.int (Int32.ofInt l10)), none, some (.int (Int32.ofInt r23)), none, some (.int (Int32.ofInt 0)), none]) ⟨rfl, rfl, rfl, rfl, rfl, rfl, rfl, rfl, rfl, rfl, rfl, rfl, rfl, trivial⟩ (B72_223 hn (res := x149) (fun x151 g152 => ?_) (fun r g152 => ?_) _ _ e150)
                        · replace h := sw_elL g152 h
                          refine ga_ii (L' := [some (.ref (z + 0)), some (.int (Int32.ofInt l1)), some (.int (Int32.ofInt l2)), some (.int (Int32.ofInt (l3 + r23))), some (.int (Int32.ofInt x29)), some (.int (Int32.ofInt (l5 + r33))), some (.int (Int32.ofInt (l6 + r39))), some (.int (Int32.ofInt (l7 + r45))), some (.int (Int32.ofInt (l8 + r51))), some (.int (Int32.ofInt (l9 + r57))), some (.int (Int32.ofInt (l10 + 1))), none, none, none, none, none]) qd72_270 rfl rfl ?_
                          refine ga_jp (t := 35) qd72_273 rfl ?_
                          exact sq_weak (L := [some (.ref (z + 0)), some (.int (Int32.ofInt l1)), some (.int (Int32.ofInt l2)), some (.int (Int32.ofInt (l3 + r23))), some (.int (Int32.ofInt x29)), some (.int (Int32.ofInt (l5 + r33))), some (.int (Int32.ofInt (l6 + r39))), some (.int (Int32.ofInt (l7 + r45))), some (.int (Int32.ofInt (l8 + r51))), some (.int (Int32.ofInt (l9 + r57))), some (.int (Int32.ofInt (l10 + 1))), none, none, none, none, none]) ⟨rfl, rfl, rfl, rfl, rfl, rfl, rfl, rfl, rfl, rfl, rfl, trivial⟩ (ih _ _ _ _ _ _ _ _ h)
                        · replace h := sw_elR g152 h
                          exact kr _ (sw_sj h).symm
                      · replace h := sw_elR g124 h
                        exact kr _ (sw_sj h).symm
                    · replace h := sw_elR g66 h
                      cases h
                  · replace h := sw_elR g60 h
                    cases h
                · replace h := sw_elR g54 h
                  cases h
              · replace h := sw_elR g48 h
                cases h
            · replace h := sw_elR g42 h
              cases h
          · replace h := sw_elR g36 h
            cases h
        · replace h := sw_elR g26 h
          cases h
      · replace h := sw_elR g20 h
        cases h
    · replace h := sw_ifN hb14 h
      refine ga_cgeN (t := 276) qd72_38 e13 hb14 rfl ?_
      exact sq_weak (L := [some (.ref (z + 0)), none, some (.int (Int32.ofInt l2)), some (.int (Int32.ofInt l3)), some (.int (Int32.ofInt l4)), some (.int (Int32.ofInt l5)), some (.int (Int32.ofInt l6)), some (.int (Int32.ofInt l7)), some (.int (Int32.ofInt l8)), some (.int (Int32.ofInt l9)), none, none, none, none, none, none]) ⟨rfl, rfl, rfl, rfl, rfl, rfl, rfl, rfl, rfl, trivial⟩ (kk _ (sw_sj h).symm)
def w204_304 (T : sw_T) (l2 : Int) (l3 : Int) (l4 : Int) (l5 : Int) (l6 : Int) (l7 : Int) (l8 : Int) (l9 : Int) (l10 : Int) (l11 : Int) (l12 : Int) : Nat → Option ((Unit) ⊕ (Int × sw_T))
  | 0 => none
  | m + 1 =>
    (sw_r1 l12).bind fun _u =>
    if l12 < 0 then
      some (.inr ((0, T)))
    else
      (sw_r2 l12 99).bind fun _u =>
      if 99 < l12 then
        some (.inr ((0, T)))
      else
        (sw_r1 l12).bind fun _u =>
        if l12 = 0 then
          (w74 T l11 1).bind fun r172 =>
          sw_el r172 (fun r173 =>
            (sw_r2 r173 2).bind fun _u =>
            if r173 = 2 then
              some (.inl ())
            else
              some (.inr ((0, T)))
          ) (fun E174 =>
          none)
        else
          (w74 T l11 1).bind fun r180 =>
          sw_el r180 (fun r181 =>
            (sw_r2 r181 2).bind fun _u =>
            if r181 = 2 then
              some (.inr ((0, T)))
            else
              some (.inl ())
          ) (fun E182 =>
          none)
theorem B72_304 {G : sp_G} {z n : Nat} (hn : 221 ≤ n) {T : sw_T} {l2 : Int} {l3 : Int} {l4 : Int} {l5 : Int} {l6 : Int} {l7 : Int} {l8 : Int} {l9 : Int} {l10 : Int} {l11 : Int} {l12 : Int} {K : sw_K} {res : (Unit) ⊕ (Int × sw_T)} {Q : sp_R → sp_M → Prop} (kk : ∀ s, res = .inl s → sq_go G 72 347 [some (.ref (z + 0)), none, some (.int (Int32.ofInt l2)), some (.int (Int32.ofInt l3)), some (.int (Int32.ofInt l4)), some (.int (Int32.ofInt l5)), some (.int (Int32.ofInt l6)), some (.int (Int32.ofInt l7)), some (.int (Int32.ofInt l8)), some (.int (Int32.ofInt l9)), some (.int (Int32.ofInt l10)), some (.int (Int32.ofInt l11)), none, none, none, none] [] (sw_M z n sw_Ft T K) Q) (kr : ∀ r, res = .inr r → Q (.inl (some (.int (Int32.ofInt r.1)))) (sw_M z n sw_Ft r.2 K)) : ∀ (m : Nat), w204_304 T l2 l3 l4 l5 l6 l7 l8 l9 l10 l11 l12 m = some res → sq_go G 72 304 [some (.ref (z + 0)), none, some (.int (Int32.ofInt l2)), some (.int (Int32.ofInt l3)), some (.int (Int32.ofInt l4)), some (.int (Int32.ofInt l5)), some (.int (Int32.ofInt l6)), some (.int (Int32.ofInt l7)), some (.int (Int32.ofInt l8)), some (.int (Int32.ofInt l9)), some (.int (Int32.ofInt l10)), some (.int (Int32.ofInt l11)), some (.int (Int32.ofInt l12)), none, none, none] [] (sw_M z n sw_Ft T K) Q := by
  intro m
  induction m with
  | zero => intro  h; cases h
  | succ m ih =>
    intro  h
    rw [w204_304] at h
    refine go_l qd72_304 rfl ?_
    obtain ⟨_u, e165, h⟩ := sw_bind h
    by_cases hb166 : l12 < 0
    · replace h := sw_ifY hb166 h
      refine ga_zltY (t := 345) qd72_306 e165 hb166 rfl ?_
      refine go_s qd72_345 rfl ?_
      exact ga_rb (u := ()) qd72_346 qr72 (by decide) (kr _ (sw_sj h).symm)
    · replace h := sw_ifN hb166 h
      refine ga_zltN (t := 345) qd72_306 e165 hb166 rfl ?_
      refine go_l qd72_309 rfl ?_
      refine ga_k8 qd72_311 rfl ?_
      obtain ⟨_u, e167, h⟩ := sw_bind h
      by_cases hb168 : 99 < l12
      · replace h := sw_ifY hb168 h
        refine ga_cgtY (t := 345) qd72_313 e167 hb168 rfl ?_
        refine go_s qd72_345 rfl ?_
        exact ga_rb (u := ()) qd72_346 qr72 (by decide) (kr _ (sw_sj h).symm)
      · replace h := sw_ifN hb168 h
        refine ga_cgtN (t := 345) qd72_313 e167 hb168 rfl ?_
        refine go_l qd72_316 rfl ?_
        obtain ⟨_u, e169, h⟩ := sw_bind h
        by_cases hb170 : l12 = 0
        · replace h := sw_ifY hb170 h
          refine ga_zneY (t := 325) qd72_318 e169 hb170 rfl ?_
          refine go_s qd72_321 rfl ?_
          refine ga_jp (t := 326) qd72_322 rfl ?_
          refine go_l qd72_326 rfl ?_
          refine go_l qd72_327 rfl ?_
          refine go_s qd72_329 rfl ?_
          obtain ⟨r172, e171, h⟩ := sw_bind h
          refine ga_kv (a := 0) (as := [.int (Int32.ofInt l11), .int (Int32.ofInt 1)]) (rest := [.int (Int32.ofInt 1)]) qd72_330 qk72_25 (sw_sl hn (by decide)) rfl rfl rfl (Nat.le_of_ble_eq_true rfl) (Nat.le_of_ble_eq_true rfl) rfl (A58 hn e171 (fun r173 g175 => ?_) (fun E174 g176 => ?_))
          · refine sw_bkv ?_
            replace h := sw_elL g175 h
            refine go_s qd72_333 rfl ?_
            obtain ⟨_u, e177, h⟩ := sw_bind h
            by_cases hb178 : r173 = 2
            · replace h := sw_ifY hb178 h
              refine ga_cneY (t := 341) qd72_334 e177 hb178 rfl ?_
              refine go_s qd72_337 rfl ?_
              refine ga_jp (t := 342) qd72_338 rfl ?_
              refine ga_ceqY (t := 347) (u := ()) qd72_342 (by decide) (by decide) rfl ?_
              exact sq_weak (L := [some (.ref (z + 0)), none, some (.int (Int32.ofInt l2)), some (.int (Int32.ofInt l3)), some (.int (Int32.ofInt l4)), some (.int (Int32.ofInt l5)), some (.int (Int32.ofInt l6)), some (.int (Int32.ofInt l7)), some (.int (Int32.ofInt l8)), some (.int (Int32.ofInt l9)), some (.int (Int32.ofInt l10)), some (.int (Int32.ofInt l11)), none, none, none, none]) ⟨rfl, rfl, rfl, rfl, rfl, rfl, rfl, rfl, rfl, rfl, rfl, trivial⟩ (kk _ (sw_sj h).symm)
            · replace h := sw_ifN hb178 h
              refine ga_cneN (t := 341) qd72_334 e177 hb178 rfl ?_
              refine go_s qd72_341 rfl ?_
              refine ga_ceqN (t := 347) (u := ()) qd72_342 (by decide) (by decide) rfl ?_
              refine go_s qd72_345 rfl ?_
              exact ga_rb (u := ()) qd72_346 qr72 (by decide) (kr _ (sw_sj h).symm)
          · replace h := sw_elR g176 h
            cases h
        · replace h := sw_ifN hb170 h
          refine ga_zneN (t := 325) qd72_318 e169 hb170 rfl ?_
          refine go_s qd72_325 rfl ?_
          refine go_l qd72_326 rfl ?_
          refine go_l qd72_327 rfl ?_
          refine go_s qd72_329 rfl ?_
          obtain ⟨r180, e179, h⟩ := sw_bind h
          refine ga_kv (a := 0) (as := [.int (Int32.ofInt l11), .int (Int32.ofInt 1)]) (rest := [.int (Int32.ofInt 0)]) qd72_330 qk72_25 (sw_sl hn (by decide)) rfl rfl rfl (Nat.le_of_ble_eq_true rfl) (Nat.le_of_ble_eq_true rfl) rfl (A58 hn e179 (fun r181 g183 => ?_) (fun E182 g184 => ?_))
          · refine sw_bkv ?_
            replace h := sw_elL g183 h
            refine go_s qd72_333 rfl ?_
            obtain ⟨_u, e185, h⟩ := sw_bind h
            by_cases hb186 : r181 = 2
            · replace h := sw_ifY hb186 h
              refine ga_cneY (t := 341) qd72_334 e185 hb186 rfl ?_
              refine go_s qd72_337 rfl ?_
              refine ga_jp (t := 342) qd72_338 rfl ?_
              refine ga_ceqN (t := 347) (u := ()) qd72_342 (by decide) (by decide) rfl ?_
              refine go_s qd72_345 rfl ?_
              exact ga_rb (u := ()) qd72_346 qr72 (by decide) (kr _ (sw_sj h).symm)
            · replace h := sw_ifN hb186 h
              refine ga_cneN (t := 341) qd72_334 e185 hb186 rfl ?_
              refine go_s qd72_341 rfl ?_
              refine ga_ceqY (t := 347) (u := ()) qd72_342 (by decide) (by decide) rfl ?_
              exact sq_weak (L := [some (.ref (z + 0)), none, some (.int (Int32.ofInt l2)), some (.int (Int32.ofInt l3)), some (.int (Int32.ofInt l4)), some (.int (Int32.ofInt l5)), some (.int (Int32.ofInt l6)), some (.int (Int32.ofInt l7)), some (.int (Int32.ofInt l8)), some (.int (Int32.ofInt l9)), some (.int (Int32.ofInt l10)), some (.int (Int32.ofInt l11)), none, none, none, none]) ⟨rfl, rfl, rfl, rfl, rfl, rfl, rfl, rfl, rfl, rfl, rfl, trivial⟩ (kk _ (sw_sj h).symm)
          · replace h := sw_elR g184 h
            cases h
def w204_282 (T : sw_T) (l2 : Int) (l3 : Int) (l4 : Int) (l5 : Int) (l6 : Int) (l7 : Int) (l8 : Int) (l9 : Int) : Nat → Int → Int → Option ((Int) ⊕ (Int × sw_T))
  | 0, _, _ => none
  | m + 1, l10, l11 =>
    (sw_r2 l11 l2).bind fun _u =>
    if l11 < l2 then
      (w74 T l11 0).bind fun r160 =>
      sw_el r160 (fun r161 =>
        (w204_304 T l2 l3 l4 l5 l6 l7 l8 l9 (l10 + r161) l11 r161 sw_N).bind fun x187 =>
        sw_el x187 (fun x189 =>
          w204_282 T l2 l3 l4 l5 l6 l7 l8 l9 m (l10 + r161) (l11 + 1)
        ) (fun r => some (.inr r))
      ) (fun E162 =>
      none)
    else
      some (.inl l10)
theorem B72_282 {G : sp_G} {z n : Nat} (hn : 221 ≤ n) {T : sw_T} {l2 : Int} {l3 : Int} {l4 : Int} {l5 : Int} {l6 : Int} {l7 : Int} {l8 : Int} {l9 : Int} {K : sw_K} {res : (Int) ⊕ (Int × sw_T)} {Q : sp_R → sp_M → Prop} (kk : ∀ s, res = .inl s → sq_go G 72 353 [some (.ref (z + 0)), none, some (.int (Int32.ofInt l2)), some (.int (Int32.ofInt l3)), some (.int (Int32.ofInt l4)), some (.int (Int32.ofInt l5)), some (.int (Int32.ofInt l6)), some (.int (Int32.ofInt l7)), some (.int (Int32.ofInt l8)), some (.int (Int32.ofInt l9)), some (.int (Int32.ofInt s)), none, none, none, none, none] [] (sw_M z n sw_Ft T K) Q) (kr : ∀ r, res = .inr r → Q (.inl (some (.int (Int32.ofInt r.1)))) (sw_M z n sw_Ft r.2 K)) : ∀ (m : Nat) (l10 : Int) (l11 : Int), w204_282 T l2 l3 l4 l5 l6 l7 l8 l9 m l10 l11 = some res → sq_go G 72 282 [some (.ref (z + 0)), none, some (.int (Int32.ofInt l2)), some (.int (Int32.ofInt l3)), some (.int (Int32.ofInt l4)), some (.int (Int32.ofInt l5)), some (.int (Int32.ofInt l6)), some (.int (Int32.ofInt l7)), some (.int (Int32.ofInt l8)), some (.int (Int32.ofInt l9)), some (.int (Int32.ofInt l10)), some (.int (Int32.ofInt l11)), none, none, none, none] [] (sw_M z n sw_Ft T K) Q := by
  intro m
  induction m with
  | zero => intro l10 l11 h; cases h
  | succ m ih =>
    intro l10 l11 h
    rw [w204_282] at h
    refine go_l qd72_282 rfl ?_
    refine go_l qd72_284 rfl ?_
    obtain ⟨_u, e157, h⟩ := sw_bind h
    by_cases hb158 : l11 < l2
    · replace h := sw_ifY hb158 h
      refine ga_cgeY (t := 353) qd72_285 e157 hb158 rfl ?_
      refine go_l qd72_288 rfl ?_
      refine go_l qd72_289 rfl ?_
      refine go_s qd72_291 rfl ?_
      obtain ⟨r160, e159, h⟩ := sw_bind h
      refine ga_kv (a := 0) (as := [.int (Int32.ofInt l11), .int (Int32.ofInt 0)]) (rest := []) qd72_292 qk72_25 (sw_sl hn (by decide)) rfl rfl rfl (Nat.le_of_ble_eq_true rfl) (Nat.le_of_ble_eq_true rfl) rfl (A58 hn e159 (fun r161 g163 => ?_) (fun E162 g164 => ?_))
      · refine sw_bkv ?_
        replace h := sw_elL g163 h
        refine go_l (L' := [some (.ref (z + 0)), none, some (.int (Int32.ofInt l2)), some (.int (Int32.ofInt l3)), some (.int (Int32.ofInt l4)), some (.int (Int32.ofInt l5)), some (.int (Int32.ofInt l6)), some (.int (Int32.ofInt l7)), some (.int (Int32.ofInt l8)), some (.int (Int32.ofInt l9)), some (.int (Int32.ofInt l10)), some (.int (Int32.ofInt l11)), some (.int (Int32.ofInt r161)), none, none, none]) (st' := []) qd72_295 rfl ?_
        refine go_l qd72_297 rfl ?_
        refine go_l qd72_299 rfl ?_
        refine ga_iadd qd72_301 ?_
        refine go_l (L' := [some (.ref (z + 0)), none, some (.int (Int32.ofInt l2)), some (.int (Int32.ofInt l3)), some (.int (Int32.ofInt l4)), some (.int (Int32.ofInt l5)), some (.int (Int32.ofInt l6)), some (.int (Int32.ofInt l7)), some (.int (Int32.ofInt l8)), some (.int (Int32.ofInt l9)), some (.int (Int32.ofInt (l10 + r161))), some (.int (Int32.ofInt l11)), some (.int (Int32.ofInt r161)), none, none, none]) (st' := []) qd72_302 rfl ?_
        obtain ⟨x187, e188, h⟩ := sw_bind h
        refine sq_weak (L := [some (.ref (z + 0)), none, some (.int (Int32.ofInt l2)), some (.int (Int32.ofInt l3)), some (.int (Int32.ofInt l4)), some (.int (Int32.ofInt l5)), some (.int (Int32.ofInt l6)), some (.int (Int32.ofInt l7)), some (.int (Int32.ofInt l8)), some (.int (Int32.ofInt l9)), some (.int (Int32.ofInt (l10 + r161))), some (.int (Int32.ofInt l11)), some (.int (Int32.ofInt r161)), none, none, none]) ⟨rfl, rfl, rfl, rfl, rfl, rfl, rfl, rfl, rfl, rfl, rfl, rfl, trivial⟩ (B72_304 hn (res := x187) (fun x189 g190 => ?_) (fun r g190 => ?_) _  e188)
        · replace h := sw_elL g190 h
          refine ga_ii (L' := [some (.ref (z + 0)), none, some (.int (Int32.ofInt l2)), some (.int (Int32.ofInt l3)), some (.int (Int32.ofInt l4)), some (.int (Int32.ofInt l5)), some (.int (Int32.ofInt l6)), some (.int (Int32.ofInt l7)), some (.int (Int32.ofInt l8)), some (.int (Int32.ofInt l9)), some (.int (Int32.ofInt (l10 + r161))), some (.int (Int32.ofInt (l11 + 1))), none, none, none, none]) qd72_347 rfl rfl ?_
          refine ga_jp (t := 282) qd72_350 rfl ?_
          exact sq_weak (L := [some (.ref (z + 0)), none, some (.int (Int32.ofInt l2)), some (.int (Int32.ofInt l3)), some (.int (Int32.ofInt l4)), some (.int (Int32.ofInt l5)), some (.int (Int32.ofInt l6)), some (.int (Int32.ofInt l7)), some (.int (Int32.ofInt l8)), some (.int (Int32.ofInt l9)), some (.int (Int32.ofInt (l10 + r161))), some (.int (Int32.ofInt (l11 + 1))), none, none, none, none]) ⟨rfl, rfl, rfl, rfl, rfl, rfl, rfl, rfl, rfl, rfl, rfl, trivial⟩ (ih _ _ h)
        · replace h := sw_elR g190 h
          exact kr _ (sw_sj h).symm
      · replace h := sw_elR g164 h
        cases h
    · replace h := sw_ifN hb158 h
      refine ga_cgeN (t := 353) qd72_285 e157 hb158 rfl ?_
      exact sq_weak (L := [some (.ref (z + 0)), none, some (.int (Int32.ofInt l2)), some (.int (Int32.ofInt l3)), some (.int (Int32.ofInt l4)), some (.int (Int32.ofInt l5)), some (.int (Int32.ofInt l6)), some (.int (Int32.ofInt l7)), some (.int (Int32.ofInt l8)), some (.int (Int32.ofInt l9)), some (.int (Int32.ofInt l10)), none, none, none, none, none]) ⟨rfl, rfl, rfl, rfl, rfl, rfl, rfl, rfl, rfl, rfl, trivial⟩ (kk _ (sw_sj h).symm)
def w204_461 (T : sw_T) (l10 : Int) (l11 : UInt64) (l13 : UInt32) (s0 : Int) : Option (Int × sw_T) :=
  (sw_r1 s0).bind fun _u =>
  if s0 = 0 then
    some ((0, T))
  else
    (sw_r1 ((Op.cmpValue (FP.dcmp l11 (sp_dc 0)) .l).toInt)).bind fun _u =>
    if ((Op.cmpValue (FP.dcmp l11 (sp_dc 0)) .l).toInt) < 0 then
      some ((0, T))
    else
      (sw_r1 ((Op.cmpValue (FP.dcmp l11 (sp_dc 1)) .g).toInt)).bind fun _u =>
      if 0 < ((Op.cmpValue (FP.dcmp l11 (sp_dc 1)) .g).toInt) then
        some ((0, T))
      else
        (sw_r1 ((Op.cmpValue (FP.fcmp l13 (sp_fc 0)) .l).toInt)).bind fun _u =>
        if ((Op.cmpValue (FP.fcmp l13 (sp_fc 0)) .l).toInt) < 0 then
          some ((0, T))
        else
          (sw_r1 ((Op.cmpValue (FP.fcmp l13 (sp_fc 1)) .g).toInt)).bind fun _u =>
          if 0 < ((Op.cmpValue (FP.fcmp l13 (sp_fc 1)) .g).toInt) then
            some ((0, T))
          else
            (w81 T 7 3).bind fun r270 =>
            sw_el r270 (fun r271 =>
              (sw_r2 r271.1 l10).bind fun _u =>
              if l10 < r271.1 then
                some ((0, r271.2))
              else
                some ((1, r271.2))
            ) (fun E272 =>
            none)
theorem B72_461 {G : sp_G} {z n : Nat} (hn : 221 ≤ n) {T : sw_T} {K : sw_K} {l10 : Int} {l11 : UInt64} {l13 : UInt32} {s0 : Int} {res : Int × sw_T} {Q : sp_R → sp_M → Prop} (h : w204_461 T l10 l11 l13 s0 = some res) (kk : Q (.inl (some (.int (Int32.ofInt res.1)))) (sw_M z n sw_Ft res.2 K)) : sq_go G 72 461 [some (.ref (z + 0)), none, none, none, none, none, none, none, none, none, some (.int (Int32.ofInt l10)), some (.double l11), none, some (.float l13), none, none] [.int (Int32.ofInt s0)] (sw_M z n sw_Ft T K) Q := by
  unfold w204_461 at h
  refine go_l (L' := [some (.ref (z + 0)), none, none, none, none, none, none, none, none, none, some (.int (Int32.ofInt l10)), some (.double l11), none, some (.float l13), some (.int (Int32.ofInt s0)), none]) (st' := []) qd72_461 rfl ?_
  refine go_l qd72_463 rfl ?_
  obtain ⟨_u, e259, h⟩ := sw_bind h
  by_cases hb260 : s0 = 0
  · replace h := sw_ifY hb260 h
    refine ga_zeqY (t := 512) qd72_465 e259 hb260 rfl ?_
    refine go_s qd72_512 rfl ?_
    rw [← sw_sj h] at kk
    exact ga_rb (u := ()) qd72_513 qr72 (by decide) kk
  · replace h := sw_ifN hb260 h
    refine ga_zeqN (t := 512) qd72_465 e259 hb260 rfl ?_
    refine go_l qd72_468 rfl ?_
    refine go_s qd72_470 rfl ?_
    refine ga_dcmp qd72_471 ?_
    obtain ⟨_u, e261, h⟩ := sw_bind h
    by_cases hb262 : ((Op.cmpValue (FP.dcmp l11 (sp_dc 0)) .l).toInt) < 0
    · replace h := sw_ifY hb262 h
      refine ga_zltY (t := 512) qd72_472 e261 hb262 rfl ?_
      refine go_s qd72_512 rfl ?_
      rw [← sw_sj h] at kk
      exact ga_rb (u := ()) qd72_513 qr72 (by decide) kk
    · replace h := sw_ifN hb262 h
      refine ga_zltN (t := 512) qd72_472 e261 hb262 rfl ?_
      refine go_l qd72_475 rfl ?_
      refine go_s qd72_477 rfl ?_
      refine ga_dcmp qd72_478 ?_
      obtain ⟨_u, e263, h⟩ := sw_bind h
      by_cases hb264 : 0 < ((Op.cmpValue (FP.dcmp l11 (sp_dc 1)) .g).toInt)
      · replace h := sw_ifY hb264 h
        refine ga_zgtY (t := 512) qd72_479 e263 hb264 rfl ?_
        refine go_s qd72_512 rfl ?_
        rw [← sw_sj h] at kk
        exact ga_rb (u := ()) qd72_513 qr72 (by decide) kk
      · replace h := sw_ifN hb264 h
        refine ga_zgtN (t := 512) qd72_479 e263 hb264 rfl ?_
        refine go_l qd72_482 rfl ?_
        refine go_s qd72_484 rfl ?_
        refine ga_fcmp qd72_485 ?_
        obtain ⟨_u, e265, h⟩ := sw_bind h
        by_cases hb266 : ((Op.cmpValue (FP.fcmp l13 (sp_fc 0)) .l).toInt) < 0
        · replace h := sw_ifY hb266 h
          refine ga_zltY (t := 512) qd72_486 e265 hb266 rfl ?_
          refine go_s qd72_512 rfl ?_
          rw [← sw_sj h] at kk
          exact ga_rb (u := ()) qd72_513 qr72 (by decide) kk
        · replace h := sw_ifN hb266 h
          refine ga_zltN (t := 512) qd72_486 e265 hb266 rfl ?_
          refine go_l qd72_489 rfl ?_
          refine go_s qd72_491 rfl ?_
          refine ga_fcmp qd72_492 ?_
          obtain ⟨_u, e267, h⟩ := sw_bind h
          by_cases hb268 : 0 < ((Op.cmpValue (FP.fcmp l13 (sp_fc 1)) .g).toInt)
          · replace h := sw_ifY hb268 h
            refine ga_zgtY (t := 512) qd72_493 e267 hb268 rfl ?_
            refine go_s qd72_512 rfl ?_
            rw [← sw_sj h] at kk
            exact ga_rb (u := ()) qd72_513 qr72 (by decide) kk
          · replace h := sw_ifN hb268 h
            refine ga_zgtN (t := 512) qd72_493 e267 hb268 rfl ?_
            refine go_l qd72_496 rfl ?_
            refine ga_k8 qd72_497 rfl ?_
            refine go_s qd72_499 rfl ?_
            obtain ⟨r270, e269, h⟩ := sw_bind h
            refine ga_kv (a := 0) (as := [.int (Int32.ofInt 7), .int (Int32.ofInt 3)]) (rest := []) qd72_500 qk72_65 (sw_sl hn (by decide)) rfl rfl rfl (Nat.le_of_ble_eq_true rfl) (Nat.le_of_ble_eq_true rfl) rfl (A62 hn e269 (fun r271 g273 => ?_) (fun E272 g274 => ?_))
            · refine sw_bkv ?_
              replace h := sw_elL g273 h
              refine go_l qd72_503 rfl ?_
              obtain ⟨_u, e275, h⟩ := sw_bind h
              by_cases hb276 : l10 < r271.1
              · replace h := sw_ifY hb276 h
                refine ga_cgtY (t := 512) qd72_505 e275 hb276 rfl ?_
                refine go_s qd72_512 rfl ?_
                rw [← sw_sj h] at kk
                exact ga_rb (u := ()) qd72_513 qr72 (by decide) kk
              · replace h := sw_ifN hb276 h
                refine ga_cgtN (t := 512) qd72_505 e275 hb276 rfl ?_
                refine go_s qd72_508 rfl ?_
                refine ga_jp (t := 513) qd72_509 rfl ?_
                rw [← sw_sj h] at kk
                exact ga_rb (u := ()) qd72_513 qr72 (by decide) kk
            · replace h := sw_elR g274 h
              cases h
def w204_460 (T : sw_T) (l10 : Int) (l11 : UInt64) (l13 : UInt32) : Option (Int × sw_T) :=
  w204_461 T l10 l11 l13 0
theorem B72_460 {G : sp_G} {z n : Nat} (hn : 221 ≤ n) {T : sw_T} {K : sw_K} {l10 : Int} {l11 : UInt64} {l13 : UInt32} {res : Int × sw_T} {Q : sp_R → sp_M → Prop} (h : w204_460 T l10 l11 l13 = some res) (kk : Q (.inl (some (.int (Int32.ofInt res.1)))) (sw_M z n sw_Ft res.2 K)) : sq_go G 72 460 [some (.ref (z + 0)), none, none, none, none, none, none, none, none, none, some (.int (Int32.ofInt l10)), some (.double l11), none, some (.float l13), none, none] [] (sw_M z n sw_Ft T K) Q := by
  unfold w204_460 at h
  refine go_s qd72_460 rfl ?_
  exact sq_weak (L := [some (.ref (z + 0)), none, none, none, none, none, none, none, none, none, some (.int (Int32.ofInt l10)), some (.double l11), none, some (.float l13), none, none]) ⟨rfl, rfl, rfl, rfl, trivial⟩ (B72_461 hn h kk)
def w204 (T : sw_T) : Option (Int × sw_T) :=
  (w75 T 1).bind fun r2 =>
  sw_el r2 (fun r3 =>
    (w75 T 2).bind fun r8 =>
    sw_el r8 (fun r9 =>
      (w204_35 T r3 r9 sw_N 0 0 0 0 0 0 0 0).bind fun x153 =>
      sw_el x153 (fun x155 =>
        (w204_282 T r9 x155.1 x155.2.1 x155.2.2.1 x155.2.2.2.1 x155.2.2.2.2.1 x155.2.2.2.2.2.1 x155.2.2.2.2.2.2 sw_N 0 0).bind fun x191 =>
        sw_el x191 (fun x193 =>
          (w82 T).bind fun r196 =>
          (w83 T).bind fun r198 =>
          (w75 T 4).bind fun r200 =>
          sw_el r200 (fun r201 =>
            (sw_r2 x155.1 r201).bind fun _u =>
            if x155.1 = r201 then
              (w75 T 5).bind fun r208 =>
              sw_el r208 (fun r209 =>
                (sw_r2 x155.2.1 r209).bind fun _u =>
                if x155.2.1 = r209 then
                  (w75 T 3).bind fun r216 =>
                  sw_el r216 (fun r217 =>
                    (sw_r2 x155.2.2.1 r217).bind fun _u =>
                    if x155.2.2.1 = r217 then
                      (w75 T 6).bind fun r224 =>
                      sw_el r224 (fun r225 =>
                        (sw_r2 x155.2.2.2.1 r225).bind fun _u =>
                        if x155.2.2.2.1 = r225 then
                          (w75 T 7).bind fun r232 =>
                          sw_el r232 (fun r233 =>
                            (sw_r2 x155.2.2.2.2.1 r233).bind fun _u =>
                            if x155.2.2.2.2.1 = r233 then
                              (w75 T 9).bind fun r240 =>
                              sw_el r240 (fun r241 =>
                                (sw_r2 x155.2.2.2.2.2.1 r241).bind fun _u =>
                                if x155.2.2.2.2.2.1 = r241 then
                                  (w75 T 10).bind fun r248 =>
                                  sw_el r248 (fun r249 =>
                                    (sw_r2 x155.2.2.2.2.2.2 r249).bind fun _u =>
                                    if x155.2.2.2.2.2.2 = r249 then
                                      (sw_r2 x193 x155.2.2.2.2.2.2).bind fun _u =>
                                      if x193 = x155.2.2.2.2.2.2 then
                                        (sw_r2 ((x155.1 + x155.2.1) + x155.2.2.1) r9).bind fun _u =>
                                        if ((x155.1 + x155.2.1) + x155.2.2.1) = r9 then
                                          w204_461 T x193 r196 r198 1
                                        else
                                          w204_460 T x193 r196 r198
                                      else
                                        w204_460 T x193 r196 r198
                                    else
                                      w204_460 T x193 r196 r198
                                  ) (fun E250 =>
                                  none)
                                else
                                  w204_460 T x193 r196 r198
                              ) (fun E242 =>
                              none)
                            else
                              w204_460 T x193 r196 r198
                          ) (fun E234 =>
                          none)
                        else
                          w204_460 T x193 r196 r198
                      ) (fun E226 =>
                      none)
                    else
                      w204_460 T x193 r196 r198
                  ) (fun E218 =>
                  none)
                else
                  w204_460 T x193 r196 r198
              ) (fun E210 =>
              none)
            else
              w204_460 T x193 r196 r198
          ) (fun E202 =>
          none)
        ) (fun r => some r)
      ) (fun r => some r)
    ) (fun E10 =>
    none)
  ) (fun E4 =>
  none)
theorem A72 {G : sp_G} {z n : Nat} (hn : 221 ≤ n) {T : sw_T} {K : sw_K} {res : Int × sw_T} {Q : sp_R → sp_M → Prop} (h : w204 T = some res) (kk : Q (.inl (some (.int (Int32.ofInt res.1)))) (sw_M z n sw_Ft res.2 K)) : sq_go G 72 0 [some (.ref (z + 0)), none, none, none, none, none, none, none, none, none, none, none, none, none, none, none] [] (sw_M z n sw_Ft T K) Q := by
  unfold w204 at h
  refine go_l qd72_0 rfl ?_
  refine go_s qd72_1 rfl ?_
  obtain ⟨r2, e1, h⟩ := sw_bind h
  refine ga_kv (a := 0) (as := [.int (Int32.ofInt 1)]) (rest := []) qd72_2 qk72_12 (sw_sl hn (by decide)) rfl rfl rfl (Nat.le_of_ble_eq_true rfl) (Nat.le_of_ble_eq_true rfl) rfl (A59 hn e1 (fun r3 g5 => ?_) (fun E4 g6 => ?_))
  · refine sw_bkv ?_
    replace h := sw_elL g5 h
    refine go_l (L' := [some (.ref (z + 0)), some (.int (Int32.ofInt r3)), none, none, none, none, none, none, none, none, none, none, none, none, none, none]) (st' := []) qd72_5 rfl ?_
    refine go_l qd72_6 rfl ?_
    refine go_s qd72_7 rfl ?_
    obtain ⟨r8, e7, h⟩ := sw_bind h
    refine ga_kv (a := 0) (as := [.int (Int32.ofInt 2)]) (rest := []) qd72_8 qk72_12 (sw_sl hn (by decide)) rfl rfl rfl (Nat.le_of_ble_eq_true rfl) (Nat.le_of_ble_eq_true rfl) rfl (A59 hn e7 (fun r9 g11 => ?_) (fun E10 g12 => ?_))
    · refine sw_bkv ?_
      replace h := sw_elL g11 h
      refine go_l (L' := [some (.ref (z + 0)), some (.int (Int32.ofInt r3)), some (.int (Int32.ofInt r9)), none, none, none, none, none, none, none, none, none, none, none, none, none]) (st' := []) qd72_11 rfl ?_
      refine go_s qd72_12 rfl ?_
      refine go_l (L' := [some (.ref (z + 0)), some (.int (Int32.ofInt r3)), some (.int (Int32.ofInt r9)), some (.int (Int32.ofInt 0)), none, none, none, none, none, none, none, none, none, none, none, none]) (st' := []) qd72_13 rfl ?_
      refine go_s qd72_14 rfl ?_
      refine go_l (L' := [some (.ref (z + 0)), some (.int (Int32.ofInt r3)), some (.int (Int32.ofInt r9)), some (.int (Int32.ofInt 0)), some (.int (Int32.ofInt 0)), none, none, none, none, none, none, none, none, none, none, none]) (st' := []) qd72_15 rfl ?_
      refine go_s qd72_17 rfl ?_
      refine go_l (L' := [some (.ref (z + 0)), some (.int (Int32.ofInt r3)), some (.int (Int32.ofInt r9)), some (.int (Int32.ofInt 0)), some (.int (Int32.ofInt 0)), some (.int (Int32.ofInt 0)), none, none, none, none, none, none, none, none, none, none]) (st' := []) qd72_18 rfl ?_
      refine go_s qd72_20 rfl ?_
      refine go_l (L' := [some (.ref (z + 0)), some (.int (Int32.ofInt r3)), some (.int (Int32.ofInt r9)), some (.int (Int32.ofInt 0)), some (.int (Int32.ofInt 0)), some (.int (Int32.ofInt 0)), some (.int (Int32.ofInt 0)), none, none, none, none, none, none, none, none, none]) (st' := []) qd72_21 rfl ?_
      refine go_s qd72_23 rfl ?_
      refine go_l (L' := [some (.ref (z + 0)), some (.int (Int32.ofInt r3)), some (.int (Int32.ofInt r9)), some (.int (Int32.ofInt 0)), some (.int (Int32.ofInt 0)), some (.int (Int32.ofInt 0)), some (.int (Int32.ofInt 0)), some (.int (Int32.ofInt 0)), none, none, none, none, none, none, none, none]) (st' := []) qd72_24 rfl ?_
      refine go_s qd72_26 rfl ?_
      refine go_l (L' := [some (.ref (z + 0)), some (.int (Int32.ofInt r3)), some (.int (Int32.ofInt r9)), some (.int (Int32.ofInt 0)), some (.int (Int32.ofInt 0)), some (.int (Int32.ofInt 0)), some (.int (Int32.ofInt 0)), some (.int (Int32.ofInt 0)), some (.int (Int32.ofInt 0)), none, none, none, none, none, none, none]) (st' := []) qd72_27 rfl ?_
      refine go_s qd72_29 rfl ?_
      refine go_l (L' := [some (.ref (z + 0)), some (.int (Int32.ofInt r3)), some (.int (Int32.ofInt r9)), some (.int (Int32.ofInt 0)), some (.int (Int32.ofInt 0)), some (.int (Int32.ofInt 0)), some (.int (Int32.ofInt 0)), some (.int (Int32.ofInt 0)), some (.int (Int32.ofInt 0)), some (.int (Int32.ofInt 0)), none, none, none, none, none, none]) (st' := []) qd72_30 rfl ?_
      refine go_s qd72_32 rfl ?_
      refine go_l (L' := [some (.ref (z + 0)), some (.int (Int32.ofInt r3)), some (.int (Int32.ofInt r9)), some (.int (Int32.ofInt 0)), some (.int (Int32.ofInt 0)), some (.int (Int32.ofInt 0)), some (.int (Int32.ofInt 0)), some (.int (Int32.ofInt 0)), some (.int (Int32.ofInt 0)), some (.int (Int32.ofInt 0)), some (.int (Int32.ofInt 0)), none, none, none, none, none]) (st' := []) qd72_33 rfl ?_
      obtain ⟨x153, e154, h⟩ := sw_bind h
      refine sq_weak (L := [some (.ref (z + 0)), some (.int (Int32.ofInt r3)), some (.int (Int32.ofInt r9)), some (.int (Int32.ofInt 0)), some (.int (Int32.ofInt 0)), some (.int (Int32.ofInt 0)), some (.int (Int32.ofInt 0)), some (.int (Int32.ofInt 0)), some (.int (Int32.ofInt 0)), some (.int (Int32.ofInt 0)), some (.int (Int32.ofInt 0)), none, none, none, none, none]) ⟨rfl, rfl, rfl, rfl, rfl, rfl, rfl, rfl, rfl, rfl, rfl, trivial⟩ (B72_35 hn (res := x153) (fun x155 g156 => ?_) (fun r g156 => ?_) _ _ _ _ _ _ _ _ _ e154)
      · replace h := sw_elL g156 h
        refine go_s qd72_276 rfl ?_
        refine go_l (L' := [some (.ref (z + 0)), none, some (.int (Int32.ofInt r9)), some (.int (Int32.ofInt x155.1)), some (.int (Int32.ofInt x155.2.1)), some (.int (Int32.ofInt x155.2.2.1)), some (.int (Int32.ofInt x155.2.2.2.1)), some (.int (Int32.ofInt x155.2.2.2.2.1)), some (.int (Int32.ofInt x155.2.2.2.2.2.1)), some (.int (Int32.ofInt x155.2.2.2.2.2.2)), some (.int (Int32.ofInt 0)), none, none, none, none, none]) (st' := []) qd72_277 rfl ?_
        refine go_s qd72_279 rfl ?_
        refine go_l (L' := [some (.ref (z + 0)), none, some (.int (Int32.ofInt r9)), some (.int (Int32.ofInt x155.1)), some (.int (Int32.ofInt x155.2.1)), some (.int (Int32.ofInt x155.2.2.1)), some (.int (Int32.ofInt x155.2.2.2.1)), some (.int (Int32.ofInt x155.2.2.2.2.1)), some (.int (Int32.ofInt x155.2.2.2.2.2.1)), some (.int (Int32.ofInt x155.2.2.2.2.2.2)), some (.int (Int32.ofInt 0)), some (.int (Int32.ofInt 0)), none, none, none, none]) (st' := []) qd72_280 rfl ?_
        obtain ⟨x191, e192, h⟩ := sw_bind h
        refine sq_weak (L := [some (.ref (z + 0)), none, some (.int (Int32.ofInt r9)), some (.int (Int32.ofInt x155.1)), some (.int (Int32.ofInt x155.2.1)), some (.int (Int32.ofInt x155.2.2.1)), some (.int (Int32.ofInt x155.2.2.2.1)), some (.int (Int32.ofInt x155.2.2.2.2.1)), some (.int (Int32.ofInt x155.2.2.2.2.2.1)), some (.int (Int32.ofInt x155.2.2.2.2.2.2)), some (.int (Int32.ofInt 0)), some (.int (Int32.ofInt 0)), none, none, none, none]) ⟨rfl, rfl, rfl, rfl, rfl, rfl, rfl, rfl, rfl, rfl, rfl, trivial⟩ (B72_282 hn (res := x191) (fun x193 g194 => ?_) (fun r g194 => ?_) _ _ _ e192)
        · replace h := sw_elL g194 h
          refine go_l qd72_353 rfl ?_
          obtain ⟨r196, e195, h⟩ := sw_bind h
          refine ga_kv (a := 0) (as := []) (rest := []) qd72_354 qk72_57 (sw_sl hn (by decide)) rfl rfl rfl (Nat.le_of_ble_eq_true rfl) (Nat.le_of_ble_eq_true rfl) rfl (A63 hn e195 (sw_bkv ?_))
          refine go_l (L' := [some (.ref (z + 0)), none, some (.int (Int32.ofInt r9)), some (.int (Int32.ofInt x155.1)), some (.int (Int32.ofInt x155.2.1)), some (.int (Int32.ofInt x155.2.2.1)), some (.int (Int32.ofInt x155.2.2.2.1)), some (.int (Int32.ofInt x155.2.2.2.2.1)), some (.int (Int32.ofInt x155.2.2.2.2.2.1)), some (.int (Int32.ofInt x155.2.2.2.2.2.2)), some (.int (Int32.ofInt x193)), some (.double r196), none, none, none, none]) (st' := []) qd72_357 rfl ?_
          refine go_l qd72_359 rfl ?_
          obtain ⟨r198, e197, h⟩ := sw_bind h
          refine ga_kv (a := 0) (as := []) (rest := []) qd72_360 qk72_61 (sw_sl hn (by decide)) rfl rfl rfl (Nat.le_of_ble_eq_true rfl) (Nat.le_of_ble_eq_true rfl) rfl (A64 hn e197 (sw_bkv ?_))
          refine go_l (L' := [some (.ref (z + 0)), none, some (.int (Int32.ofInt r9)), some (.int (Int32.ofInt x155.1)), some (.int (Int32.ofInt x155.2.1)), some (.int (Int32.ofInt x155.2.2.1)), some (.int (Int32.ofInt x155.2.2.2.1)), some (.int (Int32.ofInt x155.2.2.2.2.1)), some (.int (Int32.ofInt x155.2.2.2.2.2.1)), some (.int (Int32.ofInt x155.2.2.2.2.2.2)), some (.int (Int32.ofInt x193)), some (.double r196), none, some (.float r198), none, none]) (st' := []) qd72_363 rfl ?_
          refine go_l qd72_365 rfl ?_
          refine go_l qd72_366 rfl ?_
          refine go_s qd72_367 rfl ?_
          obtain ⟨r200, e199, h⟩ := sw_bind h
          refine ga_kv (a := 0) (as := [.int (Int32.ofInt 4)]) (rest := [.int (Int32.ofInt x155.1)]) qd72_368 qk72_12 (sw_sl hn (by decide)) rfl rfl rfl (Nat.le_of_ble_eq_true rfl) (Nat.le_of_ble_eq_true rfl) rfl (A59 hn e199 (fun r201 g203 => ?_) (fun E202 g204 => ?_))
          · refine sw_bkv ?_
            replace h := sw_elL g203 h
            obtain ⟨_u, e205, h⟩ := sw_bind h
            by_cases hb206 : x155.1 = r201
            · replace h := sw_ifY hb206 h
              refine ga_cneY (t := 460) qd72_371 e205 hb206 rfl ?_
              refine go_l qd72_374 rfl ?_
              refine go_l qd72_376 rfl ?_
              refine go_s qd72_377 rfl ?_
              obtain ⟨r208, e207, h⟩ := sw_bind h
              refine ga_kv (a := 0) (as := [.int (Int32.ofInt 5)]) (rest := [.int (Int32.ofInt x155.2.1)]) qd72_378 qk72_12 (sw_sl hn (by decide)) rfl rfl rfl (Nat.le_of_ble_eq_true rfl) (Nat.le_of_ble_eq_true rfl) rfl (A59 hn e207 (fun r209 g211 => ?_) (fun E210 g212 => ?_))
              · refine sw_bkv ?_
                replace h := sw_elL g211 h
                obtain ⟨_u, e213, h⟩ := sw_bind h
                by_cases hb214 : x155.2.1 = r209
                · replace h := sw_ifY hb214 h
                  refine ga_cneY (t := 460) qd72_381 e213 hb214 rfl ?_
                  refine go_l qd72_384 rfl ?_
                  refine go_l qd72_386 rfl ?_
                  refine go_s qd72_387 rfl ?_
                  obtain ⟨r216, e215, h⟩ := sw_bind h
                  refine ga_kv (a := 0) (as := [.int (Int32.ofInt 3)]) (rest := [.int (Int32.ofInt x155.2.2.1)]) qd72_388 qk72_12 (sw_sl hn (by decide)) rfl rfl rfl (Nat.le_of_ble_eq_true rfl) (Nat.le_of_ble_eq_true rfl) rfl (A59 hn e215 (fun r217 g219 => ?_) (fun E218 g220 => ?_))
                  · refine sw_bkv ?_
                    replace h := sw_elL g219 h
                    obtain ⟨_u, e221, h⟩ := sw_bind h
                    by_cases hb222 : x155.2.2.1 = r217
                    · replace h := sw_ifY hb222 h
                      refine ga_cneY (t := 460) qd72_391 e221 hb222 rfl ?_
                      refine go_l qd72_394 rfl ?_
                      refine go_l qd72_396 rfl ?_
                      refine ga_k8 qd72_397 rfl ?_
                      obtain ⟨r224, e223, h⟩ := sw_bind h
                      refine ga_kv (a := 0) (as := [.int (Int32.ofInt 6)]) (rest := [.int (Int32.ofInt x155.2.2.2.1)]) qd72_399 qk72_12 (sw_sl hn (by decide)) rfl rfl rfl (Nat.le_of_ble_eq_true rfl) (Nat.le_of_ble_eq_true rfl) rfl (A59 hn e223 (fun r225 g227 => ?_) (fun E226 g228 => ?_))
                      · refine sw_bkv ?_
                        replace h := sw_elL g227 h
                        obtain ⟨_u, e229, h⟩ := sw_bind h
                        by_cases hb230 : x155.2.2.2.1 = r225
                        · replace h := sw_ifY hb230 h
                          refine ga_cneY (t := 460) qd72_402 e229 hb230 rfl ?_
                          refine go_l qd72_405 rfl ?_
                          refine go_l qd72_407 rfl ?_
                          refine ga_k8 qd72_408 rfl ?_
                          obtain ⟨r232, e231, h⟩ := sw_bind h
                          refine ga_kv (a := 0) (as := [.int (Int32.ofInt 7)]) (rest := [.int (Int32.ofInt x155.2.2.2.2.1)]) qd72_410 qk72_12 (sw_sl hn (by decide)) rfl rfl rfl (Nat.le_of_ble_eq_true rfl) (Nat.le_of_ble_eq_true rfl) rfl (A59 hn e231 (fun r233 g235 => ?_) (fun E234 g236 => ?_))
                          · refine sw_bkv ?_
                            replace h := sw_elL g235 h
                            obtain ⟨_u, e237, h⟩ := sw_bind h
                            by_cases hb238 : x155.2.2.2.2.1 = r233
                            · replace h := sw_ifY hb238 h
                              refine ga_cneY (t := 460) qd72_413 e237 hb238 rfl ?_
                              refine go_l qd72_416 rfl ?_
                              refine go_l qd72_418 rfl ?_
                              refine ga_k8 qd72_419 rfl ?_
                              obtain ⟨r240, e239, h⟩ := sw_bind h
                              refine ga_kv (a := 0) (as := [.int (Int32.ofInt 9)]) (rest := [.int (Int32.ofInt x155.2.2.2.2.2.1)]) qd72_421 qk72_12 (sw_sl hn (by decide)) rfl rfl rfl (Nat.le_of_ble_eq_true rfl) (Nat.le_of_ble_eq_true rfl) rfl (A59 hn e239 (fun r241 g243 => ?_) (fun E242 g244 => ?_))
                              · refine sw_bkv ?_
                                replace h := sw_elL g243 h
                                obtain ⟨_u, e245, h⟩ := sw_bind h
                                by_cases hb246 : x155.2.2.2.2.2.1 = r241
                                · replace h := sw_ifY hb246 h
                                  refine ga_cneY (t := 460) qd72_424 e245 hb246 rfl ?_
                                  refine go_l qd72_427 rfl ?_
                                  refine go_l qd72_429 rfl ?_
                                  refine ga_k8 qd72_430 rfl ?_
                                  obtain ⟨r248, e247, h⟩ := sw_bind h
                                  refine ga_kv (a := 0) (as := [.int (Int32.ofInt 10)]) (rest := [.int (Int32.ofInt x155.2.2.2.2.2.2)]) qd72_432 qk72_12 (sw_sl hn (by decide)) rfl rfl rfl (Nat.le_of_ble_eq_true rfl) (Nat.le_of_ble_eq_true rfl) rfl (A59 hn e247 (fun r249 g251 => ?_) (fun E250 g252 => ?_))
                                  · refine sw_bkv ?_
                                    replace h := sw_elL g251 h
                                    obtain ⟨_u, e253, h⟩ := sw_bind h
                                    by_cases hb254 : x155.2.2.2.2.2.2 = r249
                                    · replace h := sw_ifY hb254 h
                                      refine ga_cneY (t := 460) qd72_435 e253 hb254 rfl ?_
                                      refine go_l qd72_438 rfl ?_
                                      refine go_l qd72_440 rfl ?_
                                      obtain ⟨_u, e255, h⟩ := sw_bind h
                                      by_cases hb256 : x193 = x155.2.2.2.2.2.2
                                      · replace h := sw_ifY hb256 h
                                        refine ga_cneY (t := 460) qd72_442 e255 hb256 rfl ?_
                                        refine go_l qd72_445 rfl ?_
                                        refine go_l qd72_446 rfl ?_
                                        refine ga_iadd qd72_448 ?_
                                        refine go_l qd72_449 rfl ?_
                                        refine ga_iadd qd72_451 ?_
                                        refine go_l qd72_452 rfl ?_
                                        obtain ⟨_u, e257, h⟩ := sw_bind h
                                        by_cases hb258 : ((x155.1 + x155.2.1) + x155.2.2.1) = r9
                                        · replace h := sw_ifY hb258 h
                                          refine ga_cneY (t := 460) qd72_453 e257 hb258 rfl ?_
                                          refine go_s qd72_456 rfl ?_
                                          refine ga_jp (t := 461) qd72_457 rfl ?_
                                          exact sq_weak (L := [some (.ref (z + 0)), none, none, none, none, none, none, none, none, none, some (.int (Int32.ofInt x193)), some (.double r196), none, some (.float r198), none, none]) ⟨rfl, rfl, rfl, rfl, trivial⟩ (B72_461 hn h kk)
                                        · replace h := sw_ifN hb258 h
                                          refine ga_cneN (t := 460) qd72_453 e257 hb258 rfl ?_
                                          exact sq_weak (L := [some (.ref (z + 0)), none, none, none, none, none, none, none, none, none, some (.int (Int32.ofInt x193)), some (.double r196), none, some (.float r198), none, none]) ⟨rfl, rfl, rfl, rfl, trivial⟩ (B72_460 hn h kk)
                                      · replace h := sw_ifN hb256 h
                                        refine ga_cneN (t := 460) qd72_442 e255 hb256 rfl ?_
                                        exact sq_weak (L := [some (.ref (z + 0)), none, none, none, none, none, none, none, none, none, some (.int (Int32.ofInt x193)), some (.double r196), none, some (.float r198), none, none]) ⟨rfl, rfl, rfl, rfl, trivial⟩ (B72_460 hn h kk)
                                    · replace h := sw_ifN hb254 h
                                      refine ga_cneN (t := 460) qd72_435 e253 hb254 rfl ?_
                                      exact sq_weak (L := [some (.ref (z + 0)), none, none, none, none, none, none, none, none, none, some (.int (Int32.ofInt x193)), some (.double r196), none, some (.float r198), none, none]) ⟨rfl, rfl, rfl, rfl, trivial⟩ (B72_460 hn h kk)
                                  · replace h := sw_elR g252 h
                                    cases h
                                · replace h := sw_ifN hb246 h
                                  refine ga_cneN (t := 460) qd72_424 e245 hb246 rfl ?_
                                  exact sq_weak (L := [some (.ref (z + 0)), none, none, none, none, none, none, none, none, none, some (.int (Int32.ofInt x193)), some (.double r196), none, some (.float r198), none, none]) ⟨rfl, rfl, rfl, rfl, trivial⟩ (B72_460 hn h kk)
                              · replace h := sw_elR g244 h
                                cases h
                            · replace h := sw_ifN hb238 h
                              refine ga_cneN (t := 460) qd72_413 e237 hb238 rfl ?_
                              exact sq_weak (L := [some (.ref (z + 0)), none, none, none, none, none, none, none, none, none, some (.int (Int32.ofInt x193)), some (.double r196), none, some (.float r198), none, none]) ⟨rfl, rfl, rfl, rfl, trivial⟩ (B72_460 hn h kk)
                          · replace h := sw_elR g236 h
                            cases h
                        · replace h := sw_ifN hb230 h
                          refine ga_cneN (t := 460) qd72_402 e229 hb230 rfl ?_
                          exact sq_weak (L := [some (.ref (z + 0)), none, none, none, none, none, none, none, none, none, some (.int (Int32.ofInt x193)), some (.double r196), none, some (.float r198), none, none]) ⟨rfl, rfl, rfl, rfl, trivial⟩ (B72_460 hn h kk)
                      · replace h := sw_elR g228 h
                        cases h
                    · replace h := sw_ifN hb222 h
                      refine ga_cneN (t := 460) qd72_391 e221 hb222 rfl ?_
                      exact sq_weak (L := [some (.ref (z + 0)), none, none, none, none, none, none, none, none, none, some (.int (Int32.ofInt x193)), some (.double r196), none, some (.float r198), none, none]) ⟨rfl, rfl, rfl, rfl, trivial⟩ (B72_460 hn h kk)
                  · replace h := sw_elR g220 h
                    cases h
                · replace h := sw_ifN hb214 h
                  refine ga_cneN (t := 460) qd72_381 e213 hb214 rfl ?_
                  exact sq_weak (L := [some (.ref (z + 0)), none, none, none, none, none, none, none, none, none, some (.int (Int32.ofInt x193)), some (.double r196), none, some (.float r198), none, none]) ⟨rfl, rfl, rfl, rfl, trivial⟩ (B72_460 hn h kk)
              · replace h := sw_elR g212 h
                cases h
            · replace h := sw_ifN hb206 h
              refine ga_cneN (t := 460) qd72_371 e205 hb206 rfl ?_
              exact sq_weak (L := [some (.ref (z + 0)), none, none, none, none, none, none, none, none, none, some (.int (Int32.ofInt x193)), some (.double r196), none, some (.float r198), none, none]) ⟨rfl, rfl, rfl, rfl, trivial⟩ (B72_460 hn h kk)
          · replace h := sw_elR g204 h
            cases h
        · replace h := sw_elR g194 h
          rw [← sw_sj h] at kk
          exact kk
      · replace h := sw_elR g156 h
        rw [← sw_sj h] at kk
        exact kk
    · replace h := sw_elR g12 h
      cases h
  · replace h := sw_elR g6 h
    cases h
theorem qk73_69 : sw_ck 73 69 70 1 1 7 5 = true := by decide +kernel
theorem qk73_73 : sw_ck 73 73 53 0 0 5 1 = true := by decide +kernel
theorem qk73_77 : sw_ck 73 77 68 1 2 7 2 = true := by decide +kernel
theorem qk73_12 : sw_ck 73 12 59 0 1 5 2 = true := by decide +kernel
theorem qk73_81 : sw_ck 73 81 55 0 0 5 1 = true := by decide +kernel
theorem qk73_84 : sw_ck 73 84 71 1 3 7 5 = true := by decide +kernel
theorem qr73 : sq_ret 73 = some .boolean := by decide +kernel
theorem qk73_88 : sw_ck 73 88 72 1 1 7 16 = true := by decide +kernel
theorem qk73_92 : sw_ck 73 92 54 0 0 5 1 = true := by decide +kernel
-- 73: SewingPilesLaw.law([I)Z
def w205_54 (G : sp_G) (l2 : Int) (l4 : Int) (l5 : Int) (l6 : Int) : Nat → sw_T → Option (sw_T)
  | 0, _ => none
  | m + 1, T =>
    (w75 T 11).bind fun r14 =>
    sw_el r14 (fun r15 =>
      (sw_r2 r15 6).bind fun _u =>
      if r15 = 6 then
        (w71 T).bind fun r22 =>
        sw_el r22 (fun r23 =>
          (w71 r23.2).bind fun r28 =>
          sw_el r28 (fun r29 =>
            some (r29.2)
          ) (fun E30 =>
          none)
        ) (fun E24 =>
        none)
      else
        some (T)
    ) (fun E16 =>
    none)
theorem B73_54 {G : sp_G} {z n : Nat} (hn : 221 ≤ n) (hG : sw_G G z) {l2 : Int} {l4 : Int} {l5 : Int} {l6 : Int} {K : sw_K} {res : sw_T} {Q : sp_R → sp_M → Prop} (kk : sq_go G 73 75 [some (.ref G.1), some (.ref (z + 0)), some (.long (Int64.ofInt l2)), none, some (.int (Int32.ofInt l4)), some (.int (Int32.ofInt l5)), some (.int (Int32.ofInt l6)), none, none, none, none, none, none, none, none] [] (sw_M z n sw_Ft res K) Q) : ∀ (m : Nat) (T : sw_T), w205_54 G l2 l4 l5 l6 m T = some res → sq_go G 73 54 [some (.ref G.1), some (.ref (z + 0)), some (.long (Int64.ofInt l2)), none, some (.int (Int32.ofInt l4)), some (.int (Int32.ofInt l5)), some (.int (Int32.ofInt l6)), none, none, none, none, none, none, none, none] [] (sw_M z n sw_Ft T K) Q := by
  intro m
  induction m with
  | zero => intro T h; cases h
  | succ m ih =>
    intro T h
    rw [w205_54] at h
    refine go_l qd73_54 rfl ?_
    refine ga_k8 qd73_55 rfl ?_
    obtain ⟨r14, e13, h⟩ := sw_bind h
    refine ga_kv (a := 0) (as := [.int (Int32.ofInt 11)]) (rest := []) qd73_57 qk73_12 (sw_sl hn (by decide)) rfl rfl rfl (Nat.le_of_ble_eq_true rfl) (Nat.le_of_ble_eq_true rfl) rfl (A59 hn e13 (fun r15 g17 => ?_) (fun E16 g18 => ?_))
    · refine sw_bkv ?_
      replace h := sw_elL g17 h
      refine ga_k8 qd73_60 rfl ?_
      obtain ⟨_u, e19, h⟩ := sw_bind h
      by_cases hb20 : r15 = 6
      · replace h := sw_ifY hb20 h
        refine ga_cneY (t := 75) qd73_62 e19 hb20 rfl ?_
        refine go_l qd73_65 rfl ?_
        obtain ⟨r22, e21, h⟩ := sw_bind h
        refine ga_kv (a := 0) (as := []) (rest := []) qd73_66 qk73_81 (sw_sl hn (by decide)) rfl rfl rfl (Nat.le_of_ble_eq_true rfl) (Nat.le_of_ble_eq_true rfl) rfl (A55 hn e21 (fun r23 g25 => ?_) (fun E24 g26 => ?_))
        · refine sw_bkv ?_
          replace h := sw_elL g25 h
          refine go_s qd73_69 rfl ?_
          refine go_l qd73_70 rfl ?_
          obtain ⟨r28, e27, h⟩ := sw_bind h
          refine ga_kv (a := 0) (as := []) (rest := []) qd73_71 qk73_81 (sw_sl hn (by decide)) rfl rfl rfl (Nat.le_of_ble_eq_true rfl) (Nat.le_of_ble_eq_true rfl) rfl (A55 hn e27 (fun r29 g31 => ?_) (fun E30 g32 => ?_))
          · refine sw_bkv ?_
            replace h := sw_elL g31 h
            refine go_s qd73_74 rfl ?_
            rw [← sw_sj h] at kk
            exact sq_weak (L := [some (.ref G.1), some (.ref (z + 0)), some (.long (Int64.ofInt l2)), none, some (.int (Int32.ofInt l4)), some (.int (Int32.ofInt l5)), some (.int (Int32.ofInt l6)), none, none, none, none, none, none, none, none]) ⟨rfl, rfl, rfl, rfl, rfl, rfl, trivial⟩ kk
          · replace h := sw_elR g32 h
            cases h
        · replace h := sw_elR g26 h
          cases h
      · replace h := sw_ifN hb20 h
        refine ga_cneN (t := 75) qd73_62 e19 hb20 rfl ?_
        rw [← sw_sj h] at kk
        exact sq_weak (L := [some (.ref G.1), some (.ref (z + 0)), some (.long (Int64.ofInt l2)), none, some (.int (Int32.ofInt l4)), some (.int (Int32.ofInt l5)), some (.int (Int32.ofInt l6)), none, none, none, none, none, none, none, none]) ⟨rfl, rfl, rfl, rfl, rfl, rfl, trivial⟩ kk
    · replace h := sw_elR g18 h
      cases h
def w205_112 (G : sp_G) (T : sw_T) (l2 : Int) (l4 : Int) (l5 : Int) (l6 : Int) (l7 : Int) (l8 : Int) (l9 : Int) (l11 : Int) (l12 : Int) : Nat → Option ((Unit) ⊕ (Int × sw_T))
  | 0 => none
  | m + 1 =>
    (sw_r2 l11 (-9)).bind fun _u =>
    if l11 = (-9) then
      if l12 = l9 then
        (w75 T 11).bind fun r58 =>
        sw_el r58 (fun r59 =>
          (sw_r2 r59 l7).bind fun _u =>
          if r59 = l7 then
            some (.inl ())
          else
            some (.inr ((0, T)))
        ) (fun E60 =>
        none)
      else
        (sw_l2 l12 l9).bind fun _u =>
        some (.inr ((0, T)))
    else
      (w75 T 11).bind fun r66 =>
      sw_el r66 (fun r67 =>
        (sw_r2 r67 (l7 + 1)).bind fun _u =>
        if r67 = (l7 + 1) then
          some (.inl ())
        else
          some (.inr ((0, T)))
      ) (fun E68 =>
      none)
theorem B73_112 {G : sp_G} {z n : Nat} (hn : 221 ≤ n) (hG : sw_G G z) {T : sw_T} {l2 : Int} {l4 : Int} {l5 : Int} {l6 : Int} {l7 : Int} {l8 : Int} {l9 : Int} {l11 : Int} {l12 : Int} {K : sw_K} {res : (Unit) ⊕ (Int × sw_T)} {Q : sp_R → sp_M → Prop} (kk : ∀ s, res = .inl s → sq_go G 73 156 [some (.ref G.1), some (.ref (z + 0)), some (.long (Int64.ofInt l2)), none, some (.int (Int32.ofInt l4)), some (.int (Int32.ofInt l5)), some (.int (Int32.ofInt l6)), some (.int (Int32.ofInt l7)), some (.int (Int32.ofInt l8)), some (.long (Int64.ofInt l9)), none, some (.int (Int32.ofInt l11)), some (.long (Int64.ofInt l12)), none, none] [] (sw_M z n sw_Ft T K) Q) (kr : ∀ r, res = .inr r → Q (.inl (some (.int (Int32.ofInt r.1)))) (sw_M z n sw_Ft r.2 K)) : ∀ (m : Nat), w205_112 G T l2 l4 l5 l6 l7 l8 l9 l11 l12 m = some res → sq_go G 73 112 [some (.ref G.1), some (.ref (z + 0)), some (.long (Int64.ofInt l2)), none, some (.int (Int32.ofInt l4)), some (.int (Int32.ofInt l5)), some (.int (Int32.ofInt l6)), some (.int (Int32.ofInt l7)), some (.int (Int32.ofInt l8)), some (.long (Int64.ofInt l9)), none, some (.int (Int32.ofInt l11)), some (.long (Int64.ofInt l12)), none, none] [] (sw_M z n sw_Ft T K) Q := by
  intro m
  induction m with
  | zero => intro  h; cases h
  | succ m ih =>
    intro  h
    rw [w205_112] at h
    refine go_l qd73_112 rfl ?_
    refine ga_k8 qd73_114 rfl ?_
    obtain ⟨_u, e53, h⟩ := sw_bind h
    by_cases hb54 : l11 = (-9)
    · replace h := sw_ifY hb54 h
      refine ga_cneY (t := 141) qd73_116 e53 hb54 rfl ?_
      refine go_l qd73_119 rfl ?_
      refine go_l qd73_121 rfl ?_
      by_cases hb56 : l12 = l9
      · replace h := sw_ifY hb56 h
        refine ga_lcnY (t := 154) qd73_123 hb56 qd73_124 rfl ?_
        refine go_l qd73_127 rfl ?_
        refine ga_k8 qd73_128 rfl ?_
        obtain ⟨r58, e57, h⟩ := sw_bind h
        refine ga_kv (a := 0) (as := [.int (Int32.ofInt 11)]) (rest := []) qd73_130 qk73_12 (sw_sl hn (by decide)) rfl rfl rfl (Nat.le_of_ble_eq_true rfl) (Nat.le_of_ble_eq_true rfl) rfl (A59 hn e57 (fun r59 g61 => ?_) (fun E60 g62 => ?_))
        · refine sw_bkv ?_
          replace h := sw_elL g61 h
          refine go_l qd73_133 rfl ?_
          obtain ⟨_u, e63, h⟩ := sw_bind h
          by_cases hb64 : r59 = l7
          · replace h := sw_ifY hb64 h
            refine ga_ceqY (t := 156) qd73_135 e63 hb64 rfl ?_
            exact sq_weak (L := [some (.ref G.1), some (.ref (z + 0)), some (.long (Int64.ofInt l2)), none, some (.int (Int32.ofInt l4)), some (.int (Int32.ofInt l5)), some (.int (Int32.ofInt l6)), some (.int (Int32.ofInt l7)), some (.int (Int32.ofInt l8)), some (.long (Int64.ofInt l9)), none, some (.int (Int32.ofInt l11)), some (.long (Int64.ofInt l12)), none, none]) ⟨rfl, rfl, rfl, rfl, rfl, rfl, rfl, rfl, rfl, rfl, rfl, trivial⟩ (kk _ (sw_sj h).symm)
          · replace h := sw_ifN hb64 h
            refine ga_ceqN (t := 156) qd73_135 e63 hb64 rfl ?_
            refine ga_jp (t := 154) qd73_138 rfl ?_
            refine go_s qd73_154 rfl ?_
            exact ga_rb (u := ()) qd73_155 qr73 (by decide) (kr _ (sw_sj h).symm)
        · replace h := sw_elR g62 h
          cases h
      · replace h := sw_ifN hb56 h
        obtain ⟨_u, e55, h⟩ := sw_bind h
        refine ga_lcnN (t := 154) qd73_123 e55 hb56 qd73_124 rfl ?_
        refine go_s qd73_154 rfl ?_
        exact ga_rb (u := ()) qd73_155 qr73 (by decide) (kr _ (sw_sj h).symm)
    · replace h := sw_ifN hb54 h
      refine ga_cneN (t := 141) qd73_116 e53 hb54 rfl ?_
      refine go_l qd73_141 rfl ?_
      refine ga_k8 qd73_142 rfl ?_
      obtain ⟨r66, e65, h⟩ := sw_bind h
      refine ga_kv (a := 0) (as := [.int (Int32.ofInt 11)]) (rest := []) qd73_144 qk73_12 (sw_sl hn (by decide)) rfl rfl rfl (Nat.le_of_ble_eq_true rfl) (Nat.le_of_ble_eq_true rfl) rfl (A59 hn e65 (fun r67 g69 => ?_) (fun E68 g70 => ?_))
      · refine sw_bkv ?_
        replace h := sw_elL g69 h
        refine go_l qd73_147 rfl ?_
        refine go_s qd73_149 rfl ?_
        refine ga_iadd qd73_150 ?_
        obtain ⟨_u, e71, h⟩ := sw_bind h
        by_cases hb72 : r67 = (l7 + 1)
        · replace h := sw_ifY hb72 h
          refine ga_ceqY (t := 156) qd73_151 e71 hb72 rfl ?_
          exact sq_weak (L := [some (.ref G.1), some (.ref (z + 0)), some (.long (Int64.ofInt l2)), none, some (.int (Int32.ofInt l4)), some (.int (Int32.ofInt l5)), some (.int (Int32.ofInt l6)), some (.int (Int32.ofInt l7)), some (.int (Int32.ofInt l8)), some (.long (Int64.ofInt l9)), none, some (.int (Int32.ofInt l11)), some (.long (Int64.ofInt l12)), none, none]) ⟨rfl, rfl, rfl, rfl, rfl, rfl, rfl, rfl, rfl, rfl, rfl, trivial⟩ (kk _ (sw_sj h).symm)
        · replace h := sw_ifN hb72 h
          refine ga_ceqN (t := 156) qd73_151 e71 hb72 rfl ?_
          refine go_s qd73_154 rfl ?_
          exact ga_rb (u := ()) qd73_155 qr73 (by decide) (kr _ (sw_sj h).symm)
      · replace h := sw_elR g70 h
        cases h
def w205_163 (G : sp_G) (T : sw_T) (l2 : Int) (l4 : Int) (l5 : Int) (l6 : Int) (l7 : Int) (l8 : Int) (l9 : Int) (l11 : Int) (l12 : Int) (l14 : Int) : Nat → Option ((Unit) ⊕ (Int × sw_T))
  | 0 => none
  | m + 1 =>
    (sw_r2 l14 3).bind fun _u =>
    if 3 < l14 then
      (sw_r2 l14 9).bind fun _u =>
      if l14 < 9 then
        (w75 T 3).bind fun r82 =>
        sw_el r82 (fun r83 =>
          (sw_r2 r83 (l8 + l11)).bind fun _u =>
          if r83 = (l8 + l11) then
            some (.inl ())
          else
            some (.inr ((0, T)))
        ) (fun E84 =>
        none)
      else
        some (.inl ())
    else
      some (.inl ())
theorem B73_163 {G : sp_G} {z n : Nat} (hn : 221 ≤ n) (hG : sw_G G z) {T : sw_T} {l2 : Int} {l4 : Int} {l5 : Int} {l6 : Int} {l7 : Int} {l8 : Int} {l9 : Int} {l11 : Int} {l12 : Int} {l14 : Int} {K : sw_K} {res : (Unit) ⊕ (Int × sw_T)} {Q : sp_R → sp_M → Prop} (kk : ∀ s, res = .inl s → sq_go G 73 191 [some (.ref G.1), some (.ref (z + 0)), some (.long (Int64.ofInt l2)), none, some (.int (Int32.ofInt l4)), some (.int (Int32.ofInt l5)), some (.int (Int32.ofInt l6)), some (.int (Int32.ofInt l7)), none, some (.long (Int64.ofInt l9)), none, some (.int (Int32.ofInt l11)), some (.long (Int64.ofInt l12)), none, none] [] (sw_M z n sw_Ft T K) Q) (kr : ∀ r, res = .inr r → Q (.inl (some (.int (Int32.ofInt r.1)))) (sw_M z n sw_Ft r.2 K)) : ∀ (m : Nat), w205_163 G T l2 l4 l5 l6 l7 l8 l9 l11 l12 l14 m = some res → sq_go G 73 163 [some (.ref G.1), some (.ref (z + 0)), some (.long (Int64.ofInt l2)), none, some (.int (Int32.ofInt l4)), some (.int (Int32.ofInt l5)), some (.int (Int32.ofInt l6)), some (.int (Int32.ofInt l7)), some (.int (Int32.ofInt l8)), some (.long (Int64.ofInt l9)), none, some (.int (Int32.ofInt l11)), some (.long (Int64.ofInt l12)), none, some (.int (Int32.ofInt l14))] [] (sw_M z n sw_Ft T K) Q := by
  intro m
  induction m with
  | zero => intro  h; cases h
  | succ m ih =>
    intro  h
    rw [w205_163] at h
    refine go_l qd73_163 rfl ?_
    refine go_s qd73_165 rfl ?_
    obtain ⟨_u, e77, h⟩ := sw_bind h
    by_cases hb78 : 3 < l14
    · replace h := sw_ifY hb78 h
      refine ga_cleY (t := 191) qd73_166 e77 hb78 rfl ?_
      refine go_l qd73_169 rfl ?_
      refine ga_k8 qd73_171 rfl ?_
      obtain ⟨_u, e79, h⟩ := sw_bind h
      by_cases hb80 : l14 < 9
      · replace h := sw_ifY hb80 h
        refine ga_cgeY (t := 191) qd73_173 e79 hb80 rfl ?_
        refine go_l qd73_176 rfl ?_
        refine go_s qd73_177 rfl ?_
        obtain ⟨r82, e81, h⟩ := sw_bind h
        refine ga_kv (a := 0) (as := [.int (Int32.ofInt 3)]) (rest := []) qd73_178 qk73_12 (sw_sl hn (by decide)) rfl rfl rfl (Nat.le_of_ble_eq_true rfl) (Nat.le_of_ble_eq_true rfl) rfl (A59 hn e81 (fun r83 g85 => ?_) (fun E84 g86 => ?_))
        · refine sw_bkv ?_
          replace h := sw_elL g85 h
          refine go_l qd73_181 rfl ?_
          refine go_l qd73_183 rfl ?_
          refine ga_iadd qd73_185 ?_
          obtain ⟨_u, e87, h⟩ := sw_bind h
          by_cases hb88 : r83 = (l8 + l11)
          · replace h := sw_ifY hb88 h
            refine ga_ceqY (t := 191) qd73_186 e87 hb88 rfl ?_
            exact sq_weak (L := [some (.ref G.1), some (.ref (z + 0)), some (.long (Int64.ofInt l2)), none, some (.int (Int32.ofInt l4)), some (.int (Int32.ofInt l5)), some (.int (Int32.ofInt l6)), some (.int (Int32.ofInt l7)), none, some (.long (Int64.ofInt l9)), none, some (.int (Int32.ofInt l11)), some (.long (Int64.ofInt l12)), none, none]) ⟨rfl, rfl, rfl, rfl, rfl, rfl, rfl, rfl, rfl, rfl, trivial⟩ (kk _ (sw_sj h).symm)
          · replace h := sw_ifN hb88 h
            refine ga_ceqN (t := 191) qd73_186 e87 hb88 rfl ?_
            refine go_s qd73_189 rfl ?_
            exact ga_rb (u := ()) qd73_190 qr73 (by decide) (kr _ (sw_sj h).symm)
        · replace h := sw_elR g86 h
          cases h
      · replace h := sw_ifN hb80 h
        refine ga_cgeN (t := 191) qd73_173 e79 hb80 rfl ?_
        exact sq_weak (L := [some (.ref G.1), some (.ref (z + 0)), some (.long (Int64.ofInt l2)), none, some (.int (Int32.ofInt l4)), some (.int (Int32.ofInt l5)), some (.int (Int32.ofInt l6)), some (.int (Int32.ofInt l7)), none, some (.long (Int64.ofInt l9)), none, some (.int (Int32.ofInt l11)), some (.long (Int64.ofInt l12)), none, none]) ⟨rfl, rfl, rfl, rfl, rfl, rfl, rfl, rfl, rfl, rfl, trivial⟩ (kk _ (sw_sj h).symm)
    · replace h := sw_ifN hb78 h
      refine ga_cleN (t := 191) qd73_166 e77 hb78 rfl ?_
      exact sq_weak (L := [some (.ref G.1), some (.ref (z + 0)), some (.long (Int64.ofInt l2)), none, some (.int (Int32.ofInt l4)), some (.int (Int32.ofInt l5)), some (.int (Int32.ofInt l6)), some (.int (Int32.ofInt l7)), none, some (.long (Int64.ofInt l9)), none, some (.int (Int32.ofInt l11)), some (.long (Int64.ofInt l12)), none, none]) ⟨rfl, rfl, rfl, rfl, rfl, rfl, rfl, rfl, rfl, rfl, trivial⟩ (kk _ (sw_sj h).symm)
def w205_191 (G : sp_G) (l2 : Int) (l4 : Int) (l5 : Int) (l6 : Int) (l7 : Int) (l9 : Int) (l11 : Int) (l12 : Int) : Nat → sw_T → Option ((sw_T) ⊕ (Int × sw_T))
  | 0, _ => none
  | m + 1, T =>
    (sw_r2 l11 (-9)).bind fun _u =>
    if (-9) < l11 then
      (sw_r1 l5).bind fun _u =>
      (sw_r1 ((l5 / 256) % 2)).bind fun _u =>
      if ((l5 / 256) % 2) = 0 then
        (w71 T).bind fun r99 =>
        sw_el r99 (fun r100 =>
          (sw_r2 r100.1 l7).bind fun _u =>
          if r100.1 = l7 then
            (w202 r100.2).bind fun r107 =>
            if r107 = l9 then
              (w203 r100.2 l5 l6).bind fun r111 =>
              (sw_r2 r111.1 l11).bind fun _u =>
              if r111.1 = l11 then
                (w202 r111.2).bind fun r115 =>
                if r115 = l12 then
                  some (.inl r111.2)
                else
                  (sw_l2 r115 l12).bind fun _u =>
                  some (.inr ((0, r111.2)))
              else
                some (.inr ((0, r111.2)))
            else
              (sw_l2 r107 l9).bind fun _u =>
              some (.inr ((0, r100.2)))
          else
            some (.inr ((0, r100.2)))
        ) (fun E101 =>
        none)
      else
        some (.inl T)
    else
      some (.inl T)
theorem B73_191 {G : sp_G} {z n : Nat} (hn : 221 ≤ n) (hG : sw_G G z) {l2 : Int} {l4 : Int} {l5 : Int} {l6 : Int} {l7 : Int} {l9 : Int} {l11 : Int} {l12 : Int} {K : sw_K} {res : (sw_T) ⊕ (Int × sw_T)} {Q : sp_R → sp_M → Prop} (kk : ∀ s, res = .inl s → sq_go G 73 252 [some (.ref G.1), some (.ref (z + 0)), some (.long (Int64.ofInt l2)), none, some (.int (Int32.ofInt l4)), some (.int (Int32.ofInt l5)), none, none, none, none, none, none, some (.long (Int64.ofInt l12)), none, none] [] (sw_M z n sw_Ft s K) Q) (kr : ∀ r, res = .inr r → Q (.inl (some (.int (Int32.ofInt r.1)))) (sw_M z n sw_Ft r.2 K)) : ∀ (m : Nat) (T : sw_T), w205_191 G l2 l4 l5 l6 l7 l9 l11 l12 m T = some res → sq_go G 73 191 [some (.ref G.1), some (.ref (z + 0)), some (.long (Int64.ofInt l2)), none, some (.int (Int32.ofInt l4)), some (.int (Int32.ofInt l5)), some (.int (Int32.ofInt l6)), some (.int (Int32.ofInt l7)), none, some (.long (Int64.ofInt l9)), none, some (.int (Int32.ofInt l11)), some (.long (Int64.ofInt l12)), none, none] [] (sw_M z n sw_Ft T K) Q := by
  intro m
  induction m with
  | zero => intro T h; cases h
  | succ m ih =>
    intro T h
    rw [w205_191] at h
    refine go_l qd73_191 rfl ?_
    refine ga_k8 qd73_193 rfl ?_
    obtain ⟨_u, e93, h⟩ := sw_bind h
    by_cases hb94 : (-9) < l11
    · replace h := sw_ifY hb94 h
      refine ga_cleY (t := 252) qd73_195 e93 hb94 rfl ?_
      refine go_l qd73_198 rfl ?_
      refine ga_k8 qd73_200 rfl ?_
      obtain ⟨_u, e95, h⟩ := sw_bind h
      refine ga_ishr8 qd73_202 e95 ?_
      refine go_s qd73_203 rfl ?_
      refine ga_iand1 qd73_204 ?_
      obtain ⟨_u, e96, h⟩ := sw_bind h
      by_cases hb97 : ((l5 / 256) % 2) = 0
      · replace h := sw_ifY hb97 h
        refine ga_zneY (t := 252) qd73_205 e96 hb97 rfl ?_
        refine go_l qd73_208 rfl ?_
        obtain ⟨r99, e98, h⟩ := sw_bind h
        refine ga_kv (a := 0) (as := []) (rest := []) qd73_209 qk73_81 (sw_sl hn (by decide)) rfl rfl rfl (Nat.le_of_ble_eq_true rfl) (Nat.le_of_ble_eq_true rfl) rfl (A55 hn e98 (fun r100 g102 => ?_) (fun E101 g103 => ?_))
        · refine sw_bkv ?_
          replace h := sw_elL g102 h
          refine go_l qd73_212 rfl ?_
          obtain ⟨_u, e104, h⟩ := sw_bind h
          by_cases hb105 : r100.1 = l7
          · replace h := sw_ifY hb105 h
            refine ga_cneY (t := 250) qd73_214 e104 hb105 rfl ?_
            refine go_l qd73_217 rfl ?_
            obtain ⟨r107, e106, h⟩ := sw_bind h
            refine ga_kS (as := [.ref (z + 0)]) (rest := []) qd73_218 qk73_69 rfl rfl (Nat.le_of_ble_eq_true rfl) (Nat.le_of_ble_eq_true rfl) rfl (A70 hn e106 (sw_bkv ?_))
            refine go_l qd73_221 rfl ?_
            by_cases hb109 : r107 = l9
            · replace h := sw_ifY hb109 h
              refine ga_lcnY (t := 250) qd73_223 hb109 qd73_224 rfl ?_
              refine go_l qd73_227 rfl ?_
              refine go_l qd73_228 rfl ?_
              refine go_l qd73_230 rfl ?_
              obtain ⟨r111, e110, h⟩ := sw_bind h
              refine ga_kS (as := [.ref (z + 0), .int (Int32.ofInt l5), .int (Int32.ofInt l6)]) (rest := []) qd73_232 qk73_84 rfl rfl (Nat.le_of_ble_eq_true rfl) (Nat.le_of_ble_eq_true rfl) rfl (A71 hn hG e110 (sw_bkv ?_))
              refine go_l qd73_235 rfl ?_
              obtain ⟨_u, e112, h⟩ := sw_bind h
              by_cases hb113 : r111.1 = l11
              · replace h := sw_ifY hb113 h
                refine ga_cneY (t := 250) qd73_237 e112 hb113 rfl ?_
                refine go_l qd73_240 rfl ?_
                obtain ⟨r115, e114, h⟩ := sw_bind h
                refine ga_kS (as := [.ref (z + 0)]) (rest := []) qd73_241 qk73_69 rfl rfl (Nat.le_of_ble_eq_true rfl) (Nat.le_of_ble_eq_true rfl) rfl (A70 hn e114 (sw_bkv ?_))
                refine go_l qd73_244 rfl ?_
                by_cases hb117 : r115 = l12
                · replace h := sw_ifY hb117 h
                  refine ga_lceY (t := 252) qd73_246 hb117 qd73_247 rfl ?_
                  exact sq_weak (L := [some (.ref G.1), some (.ref (z + 0)), some (.long (Int64.ofInt l2)), none, some (.int (Int32.ofInt l4)), some (.int (Int32.ofInt l5)), none, none, none, none, none, none, some (.long (Int64.ofInt l12)), none, none]) ⟨rfl, rfl, rfl, rfl, rfl, rfl, trivial⟩ (kk _ (sw_sj h).symm)
                · replace h := sw_ifN hb117 h
                  obtain ⟨_u, e116, h⟩ := sw_bind h
                  refine ga_lceN (t := 252) qd73_246 e116 hb117 qd73_247 rfl ?_
                  refine go_s qd73_250 rfl ?_
                  exact ga_rb (u := ()) qd73_251 qr73 (by decide) (kr _ (sw_sj h).symm)
              · replace h := sw_ifN hb113 h
                refine ga_cneN (t := 250) qd73_237 e112 hb113 rfl ?_
                refine go_s qd73_250 rfl ?_
                exact ga_rb (u := ()) qd73_251 qr73 (by decide) (kr _ (sw_sj h).symm)
            · replace h := sw_ifN hb109 h
              obtain ⟨_u, e108, h⟩ := sw_bind h
              refine ga_lcnN (t := 250) qd73_223 e108 hb109 qd73_224 rfl ?_
              refine go_s qd73_250 rfl ?_
              exact ga_rb (u := ()) qd73_251 qr73 (by decide) (kr _ (sw_sj h).symm)
          · replace h := sw_ifN hb105 h
            refine ga_cneN (t := 250) qd73_214 e104 hb105 rfl ?_
            refine go_s qd73_250 rfl ?_
            exact ga_rb (u := ()) qd73_251 qr73 (by decide) (kr _ (sw_sj h).symm)
        · replace h := sw_elR g103 h
          cases h
      · replace h := sw_ifN hb97 h
        refine ga_zneN (t := 252) qd73_205 e96 hb97 rfl ?_
        exact sq_weak (L := [some (.ref G.1), some (.ref (z + 0)), some (.long (Int64.ofInt l2)), none, some (.int (Int32.ofInt l4)), some (.int (Int32.ofInt l5)), none, none, none, none, none, none, some (.long (Int64.ofInt l12)), none, none]) ⟨rfl, rfl, rfl, rfl, rfl, rfl, trivial⟩ (kk _ (sw_sj h).symm)
    · replace h := sw_ifN hb94 h
      refine ga_cleN (t := 252) qd73_195 e93 hb94 rfl ?_
      exact sq_weak (L := [some (.ref G.1), some (.ref (z + 0)), some (.long (Int64.ofInt l2)), none, some (.int (Int32.ofInt l4)), some (.int (Int32.ofInt l5)), none, none, none, none, none, none, some (.long (Int64.ofInt l12)), none, none]) ⟨rfl, rfl, rfl, rfl, rfl, rfl, trivial⟩ (kk _ (sw_sj h).symm)
def w205_252 (G : sp_G) (l2 : Int) (l4 : Int) (l5 : Int) (l12 : Int) : Nat → sw_T → Option ((sw_T) ⊕ (Int × sw_T))
  | 0, _ => none
  | m + 1, T =>
    (sw_dv l4 2).bind fun _u =>
    (sw_r2 (l4 % 2) 1).bind fun _u =>
    if (l4 % 2) = 1 then
      (w204 T).bind fun r126 =>
      (sw_r1 r126.1).bind fun _u =>
      if r126.1 = 0 then
        some (.inr ((0, r126.2)))
      else
        some (.inl r126.2)
    else
      some (.inl T)
theorem B73_252 {G : sp_G} {z n : Nat} (hn : 221 ≤ n) (hG : sw_G G z) {l2 : Int} {l4 : Int} {l5 : Int} {l12 : Int} {K : sw_K} {res : (sw_T) ⊕ (Int × sw_T)} {Q : sp_R → sp_M → Prop} (kk : ∀ s, res = .inl s → sq_go G 73 269 [some (.ref G.1), some (.ref (z + 0)), some (.long (Int64.ofInt l2)), none, some (.int (Int32.ofInt l4)), some (.int (Int32.ofInt l5)), none, none, none, none, none, none, some (.long (Int64.ofInt l12)), none, none] [] (sw_M z n sw_Ft s K) Q) (kr : ∀ r, res = .inr r → Q (.inl (some (.int (Int32.ofInt r.1)))) (sw_M z n sw_Ft r.2 K)) : ∀ (m : Nat) (T : sw_T), w205_252 G l2 l4 l5 l12 m T = some res → sq_go G 73 252 [some (.ref G.1), some (.ref (z + 0)), some (.long (Int64.ofInt l2)), none, some (.int (Int32.ofInt l4)), some (.int (Int32.ofInt l5)), none, none, none, none, none, none, some (.long (Int64.ofInt l12)), none, none] [] (sw_M z n sw_Ft T K) Q := by
  intro m
  induction m with
  | zero => intro T h; cases h
  | succ m ih =>
    intro T h
    rw [w205_252] at h
    refine go_l qd73_252 rfl ?_
    refine go_s qd73_254 rfl ?_
    obtain ⟨_u, e122, h⟩ := sw_bind h
    refine ga_irem qd73_255 e122 ?_
    refine go_s qd73_256 rfl ?_
    obtain ⟨_u, e123, h⟩ := sw_bind h
    by_cases hb124 : (l4 % 2) = 1
    · replace h := sw_ifY hb124 h
      refine ga_cneY (t := 269) qd73_257 e123 hb124 rfl ?_
      refine go_l qd73_260 rfl ?_
      obtain ⟨r126, e125, h⟩ := sw_bind h
      refine ga_kS (as := [.ref (z + 0)]) (rest := []) qd73_261 qk73_88 rfl rfl (Nat.le_of_ble_eq_true rfl) (Nat.le_of_ble_eq_true rfl) rfl (A72 hn e125 (sw_bkv ?_))
      obtain ⟨_u, e127, h⟩ := sw_bind h
      by_cases hb128 : r126.1 = 0
      · replace h := sw_ifY hb128 h
        refine ga_zneY (t := 269) qd73_264 e127 hb128 rfl ?_
        refine go_s qd73_267 rfl ?_
        exact ga_rb (u := ()) qd73_268 qr73 (by decide) (kr _ (sw_sj h).symm)
      · replace h := sw_ifN hb128 h
        refine ga_zneN (t := 269) qd73_264 e127 hb128 rfl ?_
        exact sq_weak (L := [some (.ref G.1), some (.ref (z + 0)), some (.long (Int64.ofInt l2)), none, some (.int (Int32.ofInt l4)), some (.int (Int32.ofInt l5)), none, none, none, none, none, none, some (.long (Int64.ofInt l12)), none, none]) ⟨rfl, rfl, rfl, rfl, rfl, rfl, trivial⟩ (kk _ (sw_sj h).symm)
    · replace h := sw_ifN hb124 h
      refine ga_cneN (t := 269) qd73_257 e123 hb124 rfl ?_
      exact sq_weak (L := [some (.ref G.1), some (.ref (z + 0)), some (.long (Int64.ofInt l2)), none, some (.int (Int32.ofInt l4)), some (.int (Int32.ofInt l5)), none, none, none, none, none, none, some (.long (Int64.ofInt l12)), none, none]) ⟨rfl, rfl, rfl, rfl, rfl, rfl, trivial⟩ (kk _ (sw_sj h).symm)
def w205_269 (G : sp_G) (l4 : Int) (l5 : Int) (l12 : Int) : Nat → sw_T → Int → Option ((sw_T × Int) ⊕ (Int × sw_T))
  | 0, _, _ => none
  | m + 1, T, l2 =>
    (sw_r1 l5).bind fun _u =>
    (sw_r1 ((l5 / 512) % 8)).bind fun _u =>
    if ((l5 / 512) % 8) = 0 then
      (w69 T).bind fun r137 =>
      some (.inl (r137.2, l12))
    else
      (sw_r1 l5).bind fun _u =>
      (sw_r2 ((l5 / 512) % 8) 1).bind fun _u =>
      if ((l5 / 512) % 8) = 1 then
        (w75 T 11).bind fun r142 =>
        sw_el r142 (fun r143 =>
          (sw_r2 r143 6).bind fun _u =>
          if r143 < 6 then
            (w70 T).bind fun r150 =>
            sw_el r150 (fun r151 =>
              (w75 r151.2 0).bind fun r156 =>
              sw_el r156 (fun r157 =>
                (sw_r2 r151.1 r157).bind fun _u =>
                if r151.1 = r157 then
                  (w202 r151.2).bind fun r164 =>
                  if r164 = l2 then
                    (w71 r151.2).bind fun r168 =>
                    sw_el r168 (fun r169 =>
                      (sw_r1 r169.1).bind fun _u =>
                      if r169.1 < 0 then
                        some (.inr ((0, r169.2)))
                      else
                        (w202 r169.2).bind fun r176 =>
                        if r176 = l12 then
                          some (.inl (r169.2, l2))
                        else
                          (sw_l2 r176 l12).bind fun _u =>
                          some (.inr ((0, r169.2)))
                    ) (fun E170 =>
                    none)
                  else
                    (sw_l2 r164 l2).bind fun _u =>
                    some (.inr ((0, r151.2)))
                else
                  some (.inr ((0, r151.2)))
              ) (fun E158 =>
              none)
            ) (fun E152 =>
            none)
          else
            some (.inl (T, l2))
        ) (fun E144 =>
        none)
      else
        some (.inl (T, l2))
theorem B73_269 {G : sp_G} {z n : Nat} (hn : 221 ≤ n) (hG : sw_G G z) {l4 : Int} {l5 : Int} {l12 : Int} {K : sw_K} {res : (sw_T × Int) ⊕ (Int × sw_T)} {Q : sp_R → sp_M → Prop} (kk : ∀ s, res = .inl s → sq_go G 73 354 [some (.ref G.1), some (.ref (z + 0)), some (.long (Int64.ofInt s.2)), none, some (.int (Int32.ofInt l4)), none, none, none, none, none, none, none, none, none, none] [] (sw_M z n sw_Ft s.1 K) Q) (kr : ∀ r, res = .inr r → Q (.inl (some (.int (Int32.ofInt r.1)))) (sw_M z n sw_Ft r.2 K)) : ∀ (m : Nat) (T : sw_T) (l2 : Int), w205_269 G l4 l5 l12 m T l2 = some res → sq_go G 73 269 [some (.ref G.1), some (.ref (z + 0)), some (.long (Int64.ofInt l2)), none, some (.int (Int32.ofInt l4)), some (.int (Int32.ofInt l5)), none, none, none, none, none, none, some (.long (Int64.ofInt l12)), none, none] [] (sw_M z n sw_Ft T K) Q := by
  intro m
  induction m with
  | zero => intro T l2 h; cases h
  | succ m ih =>
    intro T l2 h
    rw [w205_269] at h
    refine go_l qd73_269 rfl ?_
    refine ga_k8 qd73_271 rfl ?_
    obtain ⟨_u, e133, h⟩ := sw_bind h
    refine ga_ishr9 qd73_273 e133 ?_
    refine ga_k8 qd73_274 rfl ?_
    refine ga_iand7 qd73_276 ?_
    obtain ⟨_u, e134, h⟩ := sw_bind h
    by_cases hb135 : ((l5 / 512) % 8) = 0
    · replace h := sw_ifY hb135 h
      refine ga_zneY (t := 291) qd73_277 e134 hb135 rfl ?_
      refine go_l qd73_280 rfl ?_
      obtain ⟨r137, e136, h⟩ := sw_bind h
      refine ga_kv (a := 0) (as := []) (rest := []) qd73_281 qk73_73 (sw_sl hn (by decide)) rfl rfl rfl (Nat.le_of_ble_eq_true rfl) (Nat.le_of_ble_eq_true rfl) rfl (A53 hn e136 (sw_bkv ?_))
      refine go_s qd73_284 rfl ?_
      refine go_l qd73_285 rfl ?_
      refine go_l (L' := [some (.ref G.1), some (.ref (z + 0)), some (.long (Int64.ofInt l12)), none, some (.int (Int32.ofInt l4)), some (.int (Int32.ofInt l5)), none, none, none, none, none, none, some (.long (Int64.ofInt l12)), none, none]) (st' := []) qd73_287 rfl ?_
      refine ga_jp (t := 354) qd73_288 rfl ?_
      exact sq_weak (L := [some (.ref G.1), some (.ref (z + 0)), some (.long (Int64.ofInt l12)), none, some (.int (Int32.ofInt l4)), none, none, none, none, none, none, none, none, none, none]) ⟨rfl, rfl, rfl, rfl, trivial⟩ (kk _ (sw_sj h).symm)
    · replace h := sw_ifN hb135 h
      refine ga_zneN (t := 291) qd73_277 e134 hb135 rfl ?_
      refine go_l qd73_291 rfl ?_
      refine ga_k8 qd73_293 rfl ?_
      obtain ⟨_u, e138, h⟩ := sw_bind h
      refine ga_ishr9 qd73_295 e138 ?_
      refine ga_k8 qd73_296 rfl ?_
      refine ga_iand7 qd73_298 ?_
      refine go_s qd73_299 rfl ?_
      obtain ⟨_u, e139, h⟩ := sw_bind h
      by_cases hb140 : ((l5 / 512) % 8) = 1
      · replace h := sw_ifY hb140 h
        refine ga_cneY (t := 354) qd73_300 e139 hb140 rfl ?_
        refine go_l qd73_303 rfl ?_
        refine ga_k8 qd73_304 rfl ?_
        obtain ⟨r142, e141, h⟩ := sw_bind h
        refine ga_kv (a := 0) (as := [.int (Int32.ofInt 11)]) (rest := []) qd73_306 qk73_12 (sw_sl hn (by decide)) rfl rfl rfl (Nat.le_of_ble_eq_true rfl) (Nat.le_of_ble_eq_true rfl) rfl (A59 hn e141 (fun r143 g145 => ?_) (fun E144 g146 => ?_))
        · refine sw_bkv ?_
          replace h := sw_elL g145 h
          refine ga_k8 qd73_309 rfl ?_
          obtain ⟨_u, e147, h⟩ := sw_bind h
          by_cases hb148 : r143 < 6
          · replace h := sw_ifY hb148 h
            refine ga_cgeY (t := 354) qd73_311 e147 hb148 rfl ?_
            refine go_l qd73_314 rfl ?_
            obtain ⟨r150, e149, h⟩ := sw_bind h
            refine ga_kv (a := 0) (as := []) (rest := []) qd73_315 qk73_92 (sw_sl hn (by decide)) rfl rfl rfl (Nat.le_of_ble_eq_true rfl) (Nat.le_of_ble_eq_true rfl) rfl (A54 hn e149 (fun r151 g153 => ?_) (fun E152 g154 => ?_))
            · refine sw_bkv ?_
              replace h := sw_elL g153 h
              refine go_l qd73_318 rfl ?_
              refine go_s qd73_319 rfl ?_
              obtain ⟨r156, e155, h⟩ := sw_bind h
              refine ga_kv (a := 0) (as := [.int (Int32.ofInt 0)]) (rest := [.int (Int32.ofInt r151.1)]) qd73_320 qk73_12 (sw_sl hn (by decide)) rfl rfl rfl (Nat.le_of_ble_eq_true rfl) (Nat.le_of_ble_eq_true rfl) rfl (A59 hn e155 (fun r157 g159 => ?_) (fun E158 g160 => ?_))
              · refine sw_bkv ?_
                replace h := sw_elL g159 h
                obtain ⟨_u, e161, h⟩ := sw_bind h
                by_cases hb162 : r151.1 = r157
                · replace h := sw_ifY hb162 h
                  refine ga_cneY (t := 352) qd73_323 e161 hb162 rfl ?_
                  refine go_l qd73_326 rfl ?_
                  obtain ⟨r164, e163, h⟩ := sw_bind h
                  refine ga_kS (as := [.ref (z + 0)]) (rest := []) qd73_327 qk73_69 rfl rfl (Nat.le_of_ble_eq_true rfl) (Nat.le_of_ble_eq_true rfl) rfl (A70 hn e163 (sw_bkv ?_))
                  refine go_l qd73_330 rfl ?_
                  by_cases hb166 : r164 = l2
                  · replace h := sw_ifY hb166 h
                    refine ga_lcnY (t := 352) qd73_331 hb166 qd73_332 rfl ?_
                    refine go_l qd73_335 rfl ?_
                    obtain ⟨r168, e167, h⟩ := sw_bind h
                    refine ga_kv (a := 0) (as := []) (rest := []) qd73_336 qk73_81 (sw_sl hn (by decide)) rfl rfl rfl (Nat.le_of_ble_eq_true rfl) (Nat.le_of_ble_eq_true rfl) rfl (A55 hn e167 (fun r169 g171 => ?_) (fun E170 g172 => ?_))
                    · refine sw_bkv ?_
                      replace h := sw_elL g171 h
                      obtain ⟨_u, e173, h⟩ := sw_bind h
                      by_cases hb174 : r169.1 < 0
                      · replace h := sw_ifY hb174 h
                        refine ga_zltY (t := 352) qd73_339 e173 hb174 rfl ?_
                        refine go_s qd73_352 rfl ?_
                        exact ga_rb (u := ()) qd73_353 qr73 (by decide) (kr _ (sw_sj h).symm)
                      · replace h := sw_ifN hb174 h
                        refine ga_zltN (t := 352) qd73_339 e173 hb174 rfl ?_
                        refine go_l qd73_342 rfl ?_
                        obtain ⟨r176, e175, h⟩ := sw_bind h
                        refine ga_kS (as := [.ref (z + 0)]) (rest := []) qd73_343 qk73_69 rfl rfl (Nat.le_of_ble_eq_true rfl) (Nat.le_of_ble_eq_true rfl) rfl (A70 hn e175 (sw_bkv ?_))
                        refine go_l qd73_346 rfl ?_
                        by_cases hb178 : r176 = l12
                        · replace h := sw_ifY hb178 h
                          refine ga_lceY (t := 354) qd73_348 hb178 qd73_349 rfl ?_
                          exact sq_weak (L := [some (.ref G.1), some (.ref (z + 0)), some (.long (Int64.ofInt l2)), none, some (.int (Int32.ofInt l4)), none, none, none, none, none, none, none, none, none, none]) ⟨rfl, rfl, rfl, rfl, trivial⟩ (kk _ (sw_sj h).symm)
                        · replace h := sw_ifN hb178 h
                          obtain ⟨_u, e177, h⟩ := sw_bind h
                          refine ga_lceN (t := 354) qd73_348 e177 hb178 qd73_349 rfl ?_
                          refine go_s qd73_352 rfl ?_
                          exact ga_rb (u := ()) qd73_353 qr73 (by decide) (kr _ (sw_sj h).symm)
                    · replace h := sw_elR g172 h
                      cases h
                  · replace h := sw_ifN hb166 h
                    obtain ⟨_u, e165, h⟩ := sw_bind h
                    refine ga_lcnN (t := 352) qd73_331 e165 hb166 qd73_332 rfl ?_
                    refine go_s qd73_352 rfl ?_
                    exact ga_rb (u := ()) qd73_353 qr73 (by decide) (kr _ (sw_sj h).symm)
                · replace h := sw_ifN hb162 h
                  refine ga_cneN (t := 352) qd73_323 e161 hb162 rfl ?_
                  refine go_s qd73_352 rfl ?_
                  exact ga_rb (u := ()) qd73_353 qr73 (by decide) (kr _ (sw_sj h).symm)
              · replace h := sw_elR g160 h
                cases h
            · replace h := sw_elR g154 h
              cases h
          · replace h := sw_ifN hb148 h
            refine ga_cgeN (t := 354) qd73_311 e147 hb148 rfl ?_
            exact sq_weak (L := [some (.ref G.1), some (.ref (z + 0)), some (.long (Int64.ofInt l2)), none, some (.int (Int32.ofInt l4)), none, none, none, none, none, none, none, none, none, none]) ⟨rfl, rfl, rfl, rfl, trivial⟩ (kk _ (sw_sj h).symm)
        · replace h := sw_elR g146 h
          cases h
      · replace h := sw_ifN hb140 h
        refine ga_cneN (t := 354) qd73_300 e139 hb140 rfl ?_
        exact sq_weak (L := [some (.ref G.1), some (.ref (z + 0)), some (.long (Int64.ofInt l2)), none, some (.int (Int32.ofInt l4)), none, none, none, none, none, none, none, none, none, none]) ⟨rfl, rfl, rfl, rfl, trivial⟩ (kk _ (sw_sj h).symm)
def w205_25 (G : sp_G) : Nat → sw_T → Int → Int → Option ((sw_T) ⊕ (Int × sw_T))
  | 0, _, _, _ => none
  | m + 1, T, l2, l4 =>
    (sw_r2 l4 32).bind fun _u =>
    if l4 < 32 then
      (w200 G T (2 * l4)).bind fun r10 =>
      (w200 G T ((2 * l4) + 1)).bind fun r12 =>
      (w205_54 G l2 l4 r10 r12 sw_N T).bind fun x33 =>
      (w75 x33 11).bind fun r36 =>
      sw_el r36 (fun r37 =>
        (w75 x33 3).bind fun r42 =>
        sw_el r42 (fun r43 =>
          (w202 x33).bind fun r48 =>
          (w203 x33 r10 r12).bind fun r50 =>
          (w202 r50.2).bind fun r52 =>
          (w205_112 G r50.2 l2 l4 r10 r12 r37 r43 r48 r50.1 r52 sw_N).bind fun x73 =>
          sw_el x73 (fun x75 =>
            (w205_163 G r50.2 l2 l4 r10 r12 r37 r43 r48 r50.1 r52 (r10 % 16) sw_N).bind fun x89 =>
            sw_el x89 (fun x91 =>
              (w205_191 G l2 l4 r10 r12 r37 r48 r50.1 r52 sw_N r50.2).bind fun x118 =>
              sw_el x118 (fun x120 =>
                (w205_252 G l2 l4 r10 r52 sw_N x120).bind fun x129 =>
                sw_el x129 (fun x131 =>
                  (w205_269 G l4 r10 r52 sw_N x131 l2).bind fun x179 =>
                  sw_el x179 (fun x181 =>
                    w205_25 G m x181.1 x181.2 (l4 + 1)
                  ) (fun r => some (.inr r))
                ) (fun r => some (.inr r))
              ) (fun r => some (.inr r))
            ) (fun r => some (.inr r))
          ) (fun r => some (.inr r))
        ) (fun E44 =>
        none)
      ) (fun E38 =>
      none)
    else
      some (.inl T)
theorem B73_25 {G : sp_G} {z n : Nat} (hn : 221 ≤ n) (hG : sw_G G z) {K : sw_K} {res : (sw_T) ⊕ (Int × sw_T)} {Q : sp_R → sp_M → Prop} (kk : ∀ s, res = .inl s → sq_go G 73 360 [none, none, none, none, none, none, none, none, none, none, none, none, none, none, none] [] (sw_M z n sw_Ft s K) Q) (kr : ∀ r, res = .inr r → Q (.inl (some (.int (Int32.ofInt r.1)))) (sw_M z n sw_Ft r.2 K)) : ∀ (m : Nat) (T : sw_T) (l2 : Int) (l4 : Int), w205_25 G m T l2 l4 = some res → sq_go G 73 25 [some (.ref G.1), some (.ref (z + 0)), some (.long (Int64.ofInt l2)), none, some (.int (Int32.ofInt l4)), none, none, none, none, none, none, none, none, none, none] [] (sw_M z n sw_Ft T K) Q := by
  intro m
  induction m with
  | zero => intro T l2 l4 h; cases h
  | succ m ih =>
    intro T l2 l4 h
    rw [w205_25] at h
    refine go_l qd73_25 rfl ?_
    refine ga_k8 qd73_27 rfl ?_
    obtain ⟨_u, e7, h⟩ := sw_bind h
    by_cases hb8 : l4 < 32
    · replace h := sw_ifY hb8 h
      refine ga_cgeY (t := 360) qd73_29 e7 hb8 rfl ?_
      refine go_l qd73_32 rfl ?_
      refine go_s qd73_33 rfl ?_
      refine go_l qd73_34 rfl ?_
      refine ga_imul qd73_36 ?_
      obtain ⟨r10, e9, h⟩ := sw_bind h
      refine ga_kS (as := [.ref G.1, .int (Int32.ofInt (2 * l4))]) (rest := []) qd73_37 qk73_77 rfl rfl (Nat.le_of_ble_eq_true rfl) (Nat.le_of_ble_eq_true rfl) rfl (A68 hn hG e9 (sw_bkv ?_))
      refine go_l (L' := [some (.ref G.1), some (.ref (z + 0)), some (.long (Int64.ofInt l2)), none, some (.int (Int32.ofInt l4)), some (.int (Int32.ofInt r10)), none, none, none, none, none, none, none, none, none]) (st' := []) qd73_40 rfl ?_
      refine go_l qd73_42 rfl ?_
      refine go_s qd73_43 rfl ?_
      refine go_l qd73_44 rfl ?_
      refine ga_imul qd73_46 ?_
      refine go_s qd73_47 rfl ?_
      refine ga_iadd qd73_48 ?_
      obtain ⟨r12, e11, h⟩ := sw_bind h
      refine ga_kS (as := [.ref G.1, .int (Int32.ofInt ((2 * l4) + 1))]) (rest := []) qd73_49 qk73_77 rfl rfl (Nat.le_of_ble_eq_true rfl) (Nat.le_of_ble_eq_true rfl) rfl (A68 hn hG e11 (sw_bkv ?_))
      refine go_l (L' := [some (.ref G.1), some (.ref (z + 0)), some (.long (Int64.ofInt l2)), none, some (.int (Int32.ofInt l4)), some (.int (Int32.ofInt r10)), some (.int (Int32.ofInt r12)), none, none, none, none, none, none, none, none]) (st' := []) qd73_52 rfl ?_
      obtain ⟨x33, e34, h⟩ := sw_bind h
      refine sq_weak (L := [some (.ref G.1), some (.ref (z + 0)), some (.long (Int64.ofInt l2)), none, some (.int (Int32.ofInt l4)), some (.int (Int32.ofInt r10)), some (.int (Int32.ofInt r12)), none, none, none, none, none, none, none, none]) ⟨rfl, rfl, rfl, rfl, rfl, rfl, trivial⟩ (B73_54 hn hG (res := x33) ?_ _ _ e34)
      refine go_l qd73_75 rfl ?_
      refine ga_k8 qd73_76 rfl ?_
      obtain ⟨r36, e35, h⟩ := sw_bind h
      refine ga_kv (a := 0) (as := [.int (Int32.ofInt 11)]) (rest := []) qd73_78 qk73_12 (sw_sl hn (by decide)) rfl rfl rfl (Nat.le_of_ble_eq_true rfl) (Nat.le_of_ble_eq_true rfl) rfl (A59 hn e35 (fun r37 g39 => ?_) (fun E38 g40 => ?_))
      · refine sw_bkv ?_
        replace h := sw_elL g39 h
        refine go_l (L' := [some (.ref G.1), some (.ref (z + 0)), some (.long (Int64.ofInt l2)), none, some (.int (Int32.ofInt l4)), some (.int (Int32.ofInt r10)), some (.int (Int32.ofInt r12)), some (.int (Int32.ofInt r37)), none, none, none, none, none, none, none]) (st' := []) qd73_81 rfl ?_
        refine go_l qd73_83 rfl ?_
        refine go_s qd73_84 rfl ?_
        obtain ⟨r42, e41, h⟩ := sw_bind h
        refine ga_kv (a := 0) (as := [.int (Int32.ofInt 3)]) (rest := []) qd73_85 qk73_12 (sw_sl hn (by decide)) rfl rfl rfl (Nat.le_of_ble_eq_true rfl) (Nat.le_of_ble_eq_true rfl) rfl (A59 hn e41 (fun r43 g45 => ?_) (fun E44 g46 => ?_))
        · refine sw_bkv ?_
          replace h := sw_elL g45 h
          refine go_l (L' := [some (.ref G.1), some (.ref (z + 0)), some (.long (Int64.ofInt l2)), none, some (.int (Int32.ofInt l4)), some (.int (Int32.ofInt r10)), some (.int (Int32.ofInt r12)), some (.int (Int32.ofInt r37)), some (.int (Int32.ofInt r43)), none, none, none, none, none, none]) (st' := []) qd73_88 rfl ?_
          refine go_l qd73_90 rfl ?_
          obtain ⟨r48, e47, h⟩ := sw_bind h
          refine ga_kS (as := [.ref (z + 0)]) (rest := []) qd73_91 qk73_69 rfl rfl (Nat.le_of_ble_eq_true rfl) (Nat.le_of_ble_eq_true rfl) rfl (A70 hn e47 (sw_bkv ?_))
          refine go_l (L' := [some (.ref G.1), some (.ref (z + 0)), some (.long (Int64.ofInt l2)), none, some (.int (Int32.ofInt l4)), some (.int (Int32.ofInt r10)), some (.int (Int32.ofInt r12)), some (.int (Int32.ofInt r37)), some (.int (Int32.ofInt r43)), some (.long (Int64.ofInt r48)), none, none, none, none, none]) (st' := []) qd73_94 rfl ?_
          refine go_l qd73_96 rfl ?_
          refine go_l qd73_97 rfl ?_
          refine go_l qd73_99 rfl ?_
          obtain ⟨r50, e49, h⟩ := sw_bind h
          refine ga_kS (as := [.ref (z + 0), .int (Int32.ofInt r10), .int (Int32.ofInt r12)]) (rest := []) qd73_101 qk73_84 rfl rfl (Nat.le_of_ble_eq_true rfl) (Nat.le_of_ble_eq_true rfl) rfl (A71 hn hG e49 (sw_bkv ?_))
          refine go_l (L' := [some (.ref G.1), some (.ref (z + 0)), some (.long (Int64.ofInt l2)), none, some (.int (Int32.ofInt l4)), some (.int (Int32.ofInt r10)), some (.int (Int32.ofInt r12)), some (.int (Int32.ofInt r37)), some (.int (Int32.ofInt r43)), some (.long (Int64.ofInt r48)), none, some (.int (Int32.ofInt r50.1)), none, none, none]) (st' := []) qd73_104 rfl ?_
          refine go_l qd73_106 rfl ?_
          obtain ⟨r52, e51, h⟩ := sw_bind h
          refine ga_kS (as := [.ref (z + 0)]) (rest := []) qd73_107 qk73_69 rfl rfl (Nat.le_of_ble_eq_true rfl) (Nat.le_of_ble_eq_true rfl) rfl (A70 hn e51 (sw_bkv ?_))
          refine go_l (L' := [some (.ref G.1), some (.ref (z + 0)), some (.long (Int64.ofInt l2)), none, some (.int (Int32.ofInt l4)), some (.int (Int32.ofInt r10)), some (.int (Int32.ofInt r12)), some (.int (Int32.ofInt r37)), some (.int (Int32.ofInt r43)), some (.long (Int64.ofInt r48)), none, some (.int (Int32.ofInt r50.1)), some (.long (Int64.ofInt r52)), none, none]) (st' := []) qd73_110 rfl ?_
          obtain ⟨x73, e74, h⟩ := sw_bind h
          refine sq_weak (L := [some (.ref G.1), some (.ref (z + 0)), some (.long (Int64.ofInt l2)), none, some (.int (Int32.ofInt l4)), some (.int (Int32.ofInt r10)), some (.int (Int32.ofInt r12)), some (.int (Int32.ofInt r37)), some (.int (Int32.ofInt r43)), some (.long (Int64.ofInt r48)), none, some (.int (Int32.ofInt r50.1)), some (.long (Int64.ofInt r52)), none, none]) ⟨rfl, rfl, rfl, rfl, rfl, rfl, rfl, rfl, rfl, rfl, rfl, trivial⟩ (B73_112 hn hG (res := x73) (fun x75 g76 => ?_) (fun r g76 => ?_) _  e74)
          · replace h := sw_elL g76 h
            refine go_l qd73_156 rfl ?_
            refine ga_k8 qd73_158 rfl ?_
            refine ga_iand15 qd73_160 ?_
            refine go_l (L' := [some (.ref G.1), some (.ref (z + 0)), some (.long (Int64.ofInt l2)), none, some (.int (Int32.ofInt l4)), some (.int (Int32.ofInt r10)), some (.int (Int32.ofInt r12)), some (.int (Int32.ofInt r37)), some (.int (Int32.ofInt r43)), some (.long (Int64.ofInt r48)), none, some (.int (Int32.ofInt r50.1)), some (.long (Int64.ofInt r52)), none, some (.int (Int32.ofInt (r10 % 16)))]) (st' := []) qd73_161 rfl ?_
            obtain ⟨x89, e90, h⟩ := sw_bind h
            refine sq_weak (L := [some (.ref G.1), some (.ref (z + 0)), some (.long (Int64.ofInt l2)), none, some (.int (Int32.ofInt l4)), some (.int (Int32.ofInt r10)), some (.int (Int32.ofInt r12)), some (.int (Int32.ofInt r37)), some (.int (Int32.ofInt r43)), some (.long (Int64.ofInt r48)), none, some (.int (Int32.ofInt r50.1)), some (.long (Int64.ofInt r52)), none, some (.int (Int32.ofInt (r10 % 16)))]) ⟨rfl, rfl, rfl, rfl, rfl, rfl, rfl, rfl, rfl, rfl, rfl, rfl, trivial⟩ (B73_163 hn hG (res := x89) (fun x91 g92 => ?_) (fun r g92 => ?_) _  e90)
            · replace h := sw_elL g92 h
              obtain ⟨x118, e119, h⟩ := sw_bind h
              refine sq_weak (L := [some (.ref G.1), some (.ref (z + 0)), some (.long (Int64.ofInt l2)), none, some (.int (Int32.ofInt l4)), some (.int (Int32.ofInt r10)), some (.int (Int32.ofInt r12)), some (.int (Int32.ofInt r37)), none, some (.long (Int64.ofInt r48)), none, some (.int (Int32.ofInt r50.1)), some (.long (Int64.ofInt r52)), none, none]) ⟨rfl, rfl, rfl, rfl, rfl, rfl, rfl, rfl, rfl, rfl, trivial⟩ (B73_191 hn hG (res := x118) (fun x120 g121 => ?_) (fun r g121 => ?_) _ _ e119)
              · replace h := sw_elL g121 h
                obtain ⟨x129, e130, h⟩ := sw_bind h
                refine sq_weak (L := [some (.ref G.1), some (.ref (z + 0)), some (.long (Int64.ofInt l2)), none, some (.int (Int32.ofInt l4)), some (.int (Int32.ofInt r10)), none, none, none, none, none, none, some (.long (Int64.ofInt r52)), none, none]) ⟨rfl, rfl, rfl, rfl, rfl, rfl, trivial⟩ (B73_252 hn hG (res := x129) (fun x131 g132 => ?_) (fun r g132 => ?_) _ _ e130)
                · replace h := sw_elL g132 h
                  obtain ⟨x179, e180, h⟩ := sw_bind h
                  refine sq_weak (L := [some (.ref G.1), some (.ref (z + 0)), some (.long (Int64.ofInt l2)), none, some (.int (Int32.ofInt l4)), some (.int (Int32.ofInt r10)), none, none, none, none, none, none, some (.long (Int64.ofInt r52)), none, none]) ⟨rfl, rfl, rfl, rfl, rfl, rfl, trivial⟩ (B73_269 hn hG (res := x179) (fun x181 g182 => ?_) (fun r g182 => ?_) _ _ _ e180)
                  · replace h := sw_elL g182 h
                    refine ga_ii (L' := [some (.ref G.1), some (.ref (z + 0)), some (.long (Int64.ofInt x181.2)), none, some (.int (Int32.ofInt (l4 + 1))), none, none, none, none, none, none, none, none, none, none]) qd73_354 rfl rfl ?_
                    refine ga_jp (t := 25) qd73_357 rfl ?_
                    exact sq_weak (L := [some (.ref G.1), some (.ref (z + 0)), some (.long (Int64.ofInt x181.2)), none, some (.int (Int32.ofInt (l4 + 1))), none, none, none, none, none, none, none, none, none, none]) ⟨rfl, rfl, rfl, rfl, trivial⟩ (ih _ _ _ h)
                  · replace h := sw_elR g182 h
                    exact kr _ (sw_sj h).symm
                · replace h := sw_elR g132 h
                  exact kr _ (sw_sj h).symm
              · replace h := sw_elR g121 h
                exact kr _ (sw_sj h).symm
            · replace h := sw_elR g92 h
              exact kr _ (sw_sj h).symm
          · replace h := sw_elR g76 h
            exact kr _ (sw_sj h).symm
        · replace h := sw_elR g46 h
          cases h
      · replace h := sw_elR g40 h
        cases h
    · replace h := sw_ifN hb8 h
      refine ga_cgeN (t := 360) qd73_29 e7 hb8 rfl ?_
      exact sq_weak (L := [none, none, none, none, none, none, none, none, none, none, none, none, none, none, none]) trivial (kk _ (sw_sj h).symm)
def w205 (G : sp_G) (T : sw_T) : Option (Int × sw_T) :=
  (w202 T).bind fun r2 =>
  (w69 T).bind fun r4 =>
  (sw_r1 r4.1).bind fun _u =>
  if r4.1 = 0 then
    (w205_25 G sw_N r4.2 r2 0).bind fun x183 =>
    sw_el x183 (fun x185 =>
      some ((1, x185))
    ) (fun r => some r)
  else
    some ((0, r4.2))
theorem A73 {G : sp_G} {z n : Nat} (hn : 221 ≤ n) (hG : sw_G G z) {T : sw_T} {K : sw_K} {res : Int × sw_T} {Q : sp_R → sp_M → Prop} (h : w205 G T = some res) (kk : Q (.inl (some (.int (Int32.ofInt res.1)))) (sw_M z n sw_Ft res.2 K)) : sq_go G 73 8 [some (.ref G.1), some (.ref (z + 0)), none, none, none, none, none, none, none, none, none, none, none, none, none] [] (sw_M z n sw_Ft T K) Q := by
  unfold w205 at h
  refine go_l qd73_8 rfl ?_
  obtain ⟨r2, e1, h⟩ := sw_bind h
  refine ga_kS (as := [.ref (z + 0)]) (rest := []) qd73_9 qk73_69 rfl rfl (Nat.le_of_ble_eq_true rfl) (Nat.le_of_ble_eq_true rfl) rfl (A70 hn e1 (sw_bkv ?_))
  refine go_l (L' := [some (.ref G.1), some (.ref (z + 0)), some (.long (Int64.ofInt r2)), none, none, none, none, none, none, none, none, none, none, none, none]) (st' := []) qd73_12 rfl ?_
  refine go_l qd73_13 rfl ?_
  obtain ⟨r4, e3, h⟩ := sw_bind h
  refine ga_kv (a := 0) (as := []) (rest := []) qd73_14 qk73_73 (sw_sl hn (by decide)) rfl rfl rfl (Nat.le_of_ble_eq_true rfl) (Nat.le_of_ble_eq_true rfl) rfl (A53 hn e3 (sw_bkv ?_))
  obtain ⟨_u, e5, h⟩ := sw_bind h
  by_cases hb6 : r4.1 = 0
  · replace h := sw_ifY hb6 h
    refine ga_zeqY (t := 22) qd73_17 e5 hb6 rfl ?_
    refine go_s qd73_22 rfl ?_
    refine go_l (L' := [some (.ref G.1), some (.ref (z + 0)), some (.long (Int64.ofInt r2)), none, some (.int (Int32.ofInt 0)), none, none, none, none, none, none, none, none, none, none]) (st' := []) qd73_23 rfl ?_
    obtain ⟨x183, e184, h⟩ := sw_bind h
    refine sq_weak (L := [some (.ref G.1), some (.ref (z + 0)), some (.long (Int64.ofInt r2)), none, some (.int (Int32.ofInt 0)), none, none, none, none, none, none, none, none, none, none]) ⟨rfl, rfl, rfl, rfl, trivial⟩ (B73_25 hn hG (res := x183) (fun x185 g186 => ?_) (fun r g186 => ?_) _ _ _ _ e184)
    · replace h := sw_elL g186 h
      refine go_s qd73_360 rfl ?_
      rw [← sw_sj h] at kk
      exact ga_rb (u := ()) qd73_361 qr73 (by decide) kk
    · replace h := sw_elR g186 h
      rw [← sw_sj h] at kk
      exact kk
  · replace h := sw_ifN hb6 h
    refine ga_zeqN (t := 22) qd73_17 e5 hb6 rfl ?_
    refine go_s qd73_20 rfl ?_
    rw [← sw_sj h] at kk
    exact ga_rb (u := ()) qd73_21 qr73 (by decide) kk
