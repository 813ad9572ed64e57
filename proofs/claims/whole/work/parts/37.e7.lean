/-! ===== the law as a function over tables ===== -/
theorem qk169_7 : sw_ck 169 7 59 0 1 5 2 = true := by decide +kernel
theorem qr169 : sq_ret 169 = some .int := by decide +kernel
theorem qh169_4_0 : sw_hk 169 4 0 = some (13, 3) := by decide +kernel
theorem qh169_4_1 : sw_hk 169 4 1 = some (16, 3) := by decide +kernel
-- 169: SewingPilesLaw.hire(LSewingPiles;I[J)I
def w169 (T : sw_T) (p1 : Int) : Option (Int × sw_T) :=
  (w59 T p1).bind fun r2 =>
  sw_el r2 (fun r3 =>
    (sw_r1 r3.1).bind fun _u =>
    (sw_st r3.2 228 1 0 r3.1).bind fun T9 =>
    some ((0, T9))
  ) (fun E4 =>
  if E4 = 0 then
    some ((1, T))
  else
  if E4 = 1 then
    some ((2, T))
  else
  none)
theorem A169 {G : sp_G} {z n : Nat} (hn : 228 ≤ n) (ho : sw_s n 228 = some (3, 1)) {T : sw_T} {K : sw_K} {p1 : Int} {res : Int × sw_T} {Q : sp_R → sp_M → Prop} (h : w169 T p1 = some res) (kk : ∀ K' : sw_K, sw_kk K K' → Q (.inl (some (.int (Int32.ofInt res.1)))) (sw_M z n sw_Ft res.2 K')) : sq_go G 169 0 [some (.ref (z + 0)), some (.int (Int32.ofInt p1)), some (.ref (z + 228)), none] [] (sw_M z n sw_Ft T K) Q := by
  unfold w169 at h
  refine go_l qd169_0 rfl ?_
  refine go_s qd169_1 rfl ?_
  refine go_l qd169_2 rfl ?_
  refine go_l qd169_3 rfl ?_
  obtain ⟨r2, e1, h⟩ := sw_bind h
  refine ga_kv (a := 0) (as := [.int (Int32.ofInt p1)]) (rest := [.int (Int32.ofInt 0), .ref (z + 228)]) qd169_4 qk169_7 (sw_sl hn (by decide)) rfl rfl rfl (Nat.le_of_ble_eq_true rfl) (Nat.le_of_ble_eq_true rfl) rfl (A59 hn e1 (fun r3 g5 => ?_) (fun E4 g6 => ?_))
  · refine sw_bkv ?_
    replace h := sw_elL g5 h
    obtain ⟨_u, e7, h⟩ := sw_bind h
    refine ga_i2l qd169_7 e7 ?_
    obtain ⟨T9, e8, h⟩ := sw_bind h
    refine ga_last qd169_8 ho e8 ?_
    refine ga_jp (t := 18) qd169_9 rfl ?_
    refine go_s qd169_18 rfl ?_
    rw [← sw_sj h] at kk
    exact ga_ri qd169_19 qr169 (kk _ sw_kk.rf)
  · replace h := sw_elR g6 h
    by_cases hb10 : E4 = 0
    · replace h := sw_ifY hb10 h
      subst hb10
      refine sw_thh (L' := [some (.ref (z + 0)), some (.int (Int32.ofInt p1)), some (.ref (z + 228)), none]) qh169_4_0 (Nat.le_of_ble_eq_true rfl) rfl ?_
      refine go_s qd169_13 rfl ?_
      rw [← sw_sj h] at kk
      exact ga_ri qd169_14 qr169 (kk _ sw_kk.th)
    · replace h := sw_ifN hb10 h
      by_cases hb11 : E4 = 1
      · replace h := sw_ifY hb11 h
        subst hb11
        refine sw_thh (L' := [some (.ref (z + 0)), some (.int (Int32.ofInt p1)), some (.ref (z + 228)), none]) qh169_4_1 (Nat.le_of_ble_eq_true rfl) rfl ?_
        refine go_s qd169_16 rfl ?_
        rw [← sw_sj h] at kk
        exact ga_ri qd169_17 qr169 (kk _ sw_kk.th)
      · replace h := sw_ifN hb11 h
        cases h
theorem qk170_17 : sw_ck 170 17 60 0 2 5 3 = true := by decide +kernel
theorem qr170 : sq_ret 170 = some .int := by decide +kernel
theorem qh170_5_0 : sw_hk 170 5 0 = some (19, 4) := by decide +kernel
theorem qh170_5_2 : sw_hk 170 5 2 = some (15, 4) := by decide +kernel
-- 170: SewingPilesLaw.speed(LSewingPiles;II[J)I
def w170 (T : sw_T) (p1 : Int) (p2 : Int) : Option (Int × sw_T) :=
  (w60 T p1 p2).bind fun r2 =>
  sw_el r2 (fun r3 =>
    (sw_r1 r3.1).bind fun _u =>
    (sw_st r3.2 228 1 0 r3.1).bind fun T9 =>
    some ((0, T9))
  ) (fun E4 =>
  if E4 = 0 then
    some ((2, T))
  else
  if E4 = 2 then
    some ((1, T))
  else
  none)
theorem A170 {G : sp_G} {z n : Nat} (hn : 228 ≤ n) (ho : sw_s n 228 = some (3, 1)) {T : sw_T} {K : sw_K} {p1 : Int} {p2 : Int} {res : Int × sw_T} {Q : sp_R → sp_M → Prop} (h : w170 T p1 p2 = some res) (kk : ∀ K' : sw_K, sw_kk K K' → Q (.inl (some (.int (Int32.ofInt res.1)))) (sw_M z n sw_Ft res.2 K')) : sq_go G 170 0 [some (.ref (z + 0)), some (.int (Int32.ofInt p1)), some (.int (Int32.ofInt p2)), some (.ref (z + 228)), none] [] (sw_M z n sw_Ft T K) Q := by
  unfold w170 at h
  refine go_l qd170_0 rfl ?_
  refine go_s qd170_1 rfl ?_
  refine go_l qd170_2 rfl ?_
  refine go_l qd170_3 rfl ?_
  refine go_l qd170_4 rfl ?_
  obtain ⟨r2, e1, h⟩ := sw_bind h
  refine ga_kv (a := 0) (as := [.int (Int32.ofInt p1), .int (Int32.ofInt p2)]) (rest := [.int (Int32.ofInt 0), .ref (z + 228)]) qd170_5 qk170_17 (sw_sl hn (by decide)) rfl rfl rfl (Nat.le_of_ble_eq_true rfl) (Nat.le_of_ble_eq_true rfl) rfl (A60 hn e1 (fun r3 g5 => ?_) (fun E4 g6 => ?_))
  · refine sw_bkv ?_
    replace h := sw_elL g5 h
    obtain ⟨_u, e7, h⟩ := sw_bind h
    refine ga_i2l qd170_8 e7 ?_
    obtain ⟨T9, e8, h⟩ := sw_bind h
    refine ga_last qd170_9 ho e8 ?_
    refine ga_jp (t := 21) qd170_10 rfl ?_
    refine go_s qd170_21 rfl ?_
    rw [← sw_sj h] at kk
    exact ga_ri qd170_22 qr170 (kk _ sw_kk.rf)
  · replace h := sw_elR g6 h
    by_cases hb10 : E4 = 0
    · replace h := sw_ifY hb10 h
      subst hb10
      refine sw_thh (L' := [some (.ref (z + 0)), some (.int (Int32.ofInt p1)), some (.int (Int32.ofInt p2)), some (.ref (z + 228)), none]) qh170_5_0 (Nat.le_of_ble_eq_true rfl) rfl ?_
      refine go_s qd170_19 rfl ?_
      rw [← sw_sj h] at kk
      exact ga_ri qd170_20 qr170 (kk _ sw_kk.th)
    · replace h := sw_ifN hb10 h
      by_cases hb11 : E4 = 2
      · replace h := sw_ifY hb11 h
        subst hb11
        refine sw_thh (L' := [some (.ref (z + 0)), some (.int (Int32.ofInt p1)), some (.int (Int32.ofInt p2)), some (.ref (z + 228)), none]) qh170_5_2 (Nat.le_of_ble_eq_true rfl) rfl ?_
        refine go_s qd170_15 rfl ?_
        rw [← sw_sj h] at kk
        exact ga_ri qd170_16 qr170 (kk _ sw_kk.th)
      · replace h := sw_ifN hb11 h
        cases h
theorem qk171_23 : sw_ck 171 23 61 0 2 5 3 = true := by decide +kernel
theorem qr171 : sq_ret 171 = some .int := by decide +kernel
theorem qh171_5_0 : sw_hk 171 5 0 = some (19, 4) := by decide +kernel
theorem qh171_5_1 : sw_hk 171 5 1 = some (23, 4) := by decide +kernel
theorem qh171_5_2 : sw_hk 171 5 2 = some (15, 4) := by decide +kernel
-- 171: SewingPilesLaw.lay(LSewingPiles;II[J)I
def w171 (T : sw_T) (p1 : Int) (p2 : Int) : Option (Int × sw_T) :=
  (w61 T p1 p2).bind fun r2 =>
  sw_el r2 (fun r3 =>
    (sw_r1 r3.1).bind fun _u =>
    (sw_st r3.2 228 1 0 r3.1).bind fun T9 =>
    some ((0, T9))
  ) (fun E4 =>
  if E4 = 0 then
    some ((2, T))
  else
  if E4 = 1 then
    some ((3, T))
  else
  if E4 = 2 then
    some ((1, T))
  else
  none)
theorem A171 {G : sp_G} {z n : Nat} (hn : 228 ≤ n) (ho : sw_s n 228 = some (3, 1)) {T : sw_T} {K : sw_K} {p1 : Int} {p2 : Int} {res : Int × sw_T} {Q : sp_R → sp_M → Prop} (h : w171 T p1 p2 = some res) (kk : ∀ K' : sw_K, sw_kk K K' → Q (.inl (some (.int (Int32.ofInt res.1)))) (sw_M z n sw_Ft res.2 K')) : sq_go G 171 0 [some (.ref (z + 0)), some (.int (Int32.ofInt p1)), some (.int (Int32.ofInt p2)), some (.ref (z + 228)), none] [] (sw_M z n sw_Ft T K) Q := by
  unfold w171 at h
  refine go_l qd171_0 rfl ?_
  refine go_s qd171_1 rfl ?_
  refine go_l qd171_2 rfl ?_
  refine go_l qd171_3 rfl ?_
  refine go_l qd171_4 rfl ?_
  obtain ⟨r2, e1, h⟩ := sw_bind h
  refine ga_kv (a := 0) (as := [.int (Int32.ofInt p1), .int (Int32.ofInt p2)]) (rest := [.int (Int32.ofInt 0), .ref (z + 228)]) qd171_5 qk171_23 (sw_sl hn (by decide)) rfl rfl rfl (Nat.le_of_ble_eq_true rfl) (Nat.le_of_ble_eq_true rfl) rfl (A61 hn e1 (fun r3 g5 => ?_) (fun E4 g6 => ?_))
  · refine sw_bkv ?_
    replace h := sw_elL g5 h
    obtain ⟨_u, e7, h⟩ := sw_bind h
    refine ga_i2l qd171_8 e7 ?_
    obtain ⟨T9, e8, h⟩ := sw_bind h
    refine ga_last qd171_9 ho e8 ?_
    refine ga_jp (t := 25) qd171_10 rfl ?_
    refine go_s qd171_25 rfl ?_
    rw [← sw_sj h] at kk
    exact ga_ri qd171_26 qr171 (kk _ sw_kk.rf)
  · replace h := sw_elR g6 h
    by_cases hb10 : E4 = 0
    · replace h := sw_ifY hb10 h
      subst hb10
      refine sw_thh (L' := [some (.ref (z + 0)), some (.int (Int32.ofInt p1)), some (.int (Int32.ofInt p2)), some (.ref (z + 228)), none]) qh171_5_0 (Nat.le_of_ble_eq_true rfl) rfl ?_
      refine go_s qd171_19 rfl ?_
      rw [← sw_sj h] at kk
      exact ga_ri qd171_20 qr171 (kk _ sw_kk.th)
    · replace h := sw_ifN hb10 h
      by_cases hb11 : E4 = 1
      · replace h := sw_ifY hb11 h
        subst hb11
        refine sw_thh (L' := [some (.ref (z + 0)), some (.int (Int32.ofInt p1)), some (.int (Int32.ofInt p2)), some (.ref (z + 228)), none]) qh171_5_1 (Nat.le_of_ble_eq_true rfl) rfl ?_
        refine go_s qd171_23 rfl ?_
        rw [← sw_sj h] at kk
        exact ga_ri qd171_24 qr171 (kk _ sw_kk.th)
      · replace h := sw_ifN hb11 h
        by_cases hb12 : E4 = 2
        · replace h := sw_ifY hb12 h
          subst hb12
          refine sw_thh (L' := [some (.ref (z + 0)), some (.int (Int32.ofInt p1)), some (.int (Int32.ofInt p2)), some (.ref (z + 228)), none]) qh171_5_2 (Nat.le_of_ble_eq_true rfl) rfl ?_
          refine go_s qd171_15 rfl ?_
          rw [← sw_sj h] at kk
          exact ga_ri qd171_16 qr171 (kk _ sw_kk.th)
        · replace h := sw_ifN hb12 h
          cases h
theorem qk172_26 : sw_ck 172 26 62 0 1 5 2 = true := by decide +kernel
theorem qr172 : sq_ret 172 = some .int := by decide +kernel
theorem qh172_4_2 : sw_hk 172 4 2 = some (13, 3) := by decide +kernel
-- 172: SewingPilesLaw.wake(LSewingPiles;I[J)I
def w172 (T : sw_T) (p1 : Int) : Option (Int × sw_T) :=
  (w62 T p1).bind fun r2 =>
  sw_el r2 (fun r3 =>
    (sw_r1 r3.1).bind fun _u =>
    (sw_st r3.2 228 1 0 r3.1).bind fun T9 =>
    some ((0, T9))
  ) (fun E4 =>
  if E4 = 2 then
    some ((1, T))
  else
  none)
theorem A172 {G : sp_G} {z n : Nat} (hn : 228 ≤ n) (ho : sw_s n 228 = some (3, 1)) {T : sw_T} {K : sw_K} {p1 : Int} {res : Int × sw_T} {Q : sp_R → sp_M → Prop} (h : w172 T p1 = some res) (kk : ∀ K' : sw_K, sw_kk K K' → Q (.inl (some (.int (Int32.ofInt res.1)))) (sw_M z n sw_Ft res.2 K')) : sq_go G 172 0 [some (.ref (z + 0)), some (.int (Int32.ofInt p1)), some (.ref (z + 228)), none] [] (sw_M z n sw_Ft T K) Q := by
  unfold w172 at h
  refine go_l qd172_0 rfl ?_
  refine go_s qd172_1 rfl ?_
  refine go_l qd172_2 rfl ?_
  refine go_l qd172_3 rfl ?_
  obtain ⟨r2, e1, h⟩ := sw_bind h
  refine ga_kv (a := 0) (as := [.int (Int32.ofInt p1)]) (rest := [.int (Int32.ofInt 0), .ref (z + 228)]) qd172_4 qk172_26 (sw_sl hn (by decide)) rfl rfl rfl (Nat.le_of_ble_eq_true rfl) (Nat.le_of_ble_eq_true rfl) rfl (A62 hn e1 (fun r3 g5 => ?_) (fun E4 g6 => ?_))
  · refine sw_bkv ?_
    replace h := sw_elL g5 h
    obtain ⟨_u, e7, h⟩ := sw_bind h
    refine ga_i2l qd172_7 e7 ?_
    obtain ⟨T9, e8, h⟩ := sw_bind h
    refine ga_last qd172_8 ho e8 ?_
    refine ga_jp (t := 15) qd172_9 rfl ?_
    refine go_s qd172_15 rfl ?_
    rw [← sw_sj h] at kk
    exact ga_ri qd172_16 qr172 (kk _ sw_kk.rf)
  · replace h := sw_elR g6 h
    by_cases hb10 : E4 = 2
    · replace h := sw_ifY hb10 h
      subst hb10
      refine sw_thh (L' := [some (.ref (z + 0)), some (.int (Int32.ofInt p1)), some (.ref (z + 228)), none]) qh172_4_2 (Nat.le_of_ble_eq_true rfl) rfl ?_
      refine go_s qd172_13 rfl ?_
      rw [← sw_sj h] at kk
      exact ga_ri qd172_14 qr172 (kk _ sw_kk.th)
    · replace h := sw_ifN hb10 h
      cases h
theorem qk173_29 : sw_ck 173 29 63 0 1 5 3 = true := by decide +kernel
theorem qr173 : sq_ret 173 = some .int := by decide +kernel
theorem qh173_4_0 : sw_hk 173 4 0 = some (13, 3) := by decide +kernel
-- 173: SewingPilesLaw.pass(LSewingPiles;I[J)I
def w173 (T : sw_T) (p1 : Int) : Option (Int × sw_T) :=
  (w63 T p1).bind fun r2 =>
  sw_el r2 (fun r3 =>
    (sw_r1 r3.1).bind fun _u =>
    (sw_st r3.2 228 1 0 r3.1).bind fun T9 =>
    some ((0, T9))
  ) (fun E4 =>
  if E4 = 0 then
    some ((1, T))
  else
  none)
theorem A173 {G : sp_G} {z n : Nat} (hn : 228 ≤ n) (ho : sw_s n 228 = some (3, 1)) {T : sw_T} {K : sw_K} {p1 : Int} {res : Int × sw_T} {Q : sp_R → sp_M → Prop} (h : w173 T p1 = some res) (kk : ∀ K' : sw_K, sw_kk K K' → Q (.inl (some (.int (Int32.ofInt res.1)))) (sw_M z n sw_Ft res.2 K')) : sq_go G 173 0 [some (.ref (z + 0)), some (.int (Int32.ofInt p1)), some (.ref (z + 228)), none] [] (sw_M z n sw_Ft T K) Q := by
  unfold w173 at h
  refine go_l qd173_0 rfl ?_
  refine go_s qd173_1 rfl ?_
  refine go_l qd173_2 rfl ?_
  refine go_l qd173_3 rfl ?_
  obtain ⟨r2, e1, h⟩ := sw_bind h
  refine ga_kv (a := 0) (as := [.int (Int32.ofInt p1)]) (rest := [.int (Int32.ofInt 0), .ref (z + 228)]) qd173_4 qk173_29 (sw_sl hn (by decide)) rfl rfl rfl (Nat.le_of_ble_eq_true rfl) (Nat.le_of_ble_eq_true rfl) rfl (A63 hn e1 (fun r3 g5 => ?_) (fun E4 g6 => ?_))
  · refine sw_bkv ?_
    replace h := sw_elL g5 h
    obtain ⟨_u, e7, h⟩ := sw_bind h
    refine ga_i2l qd173_7 e7 ?_
    obtain ⟨T9, e8, h⟩ := sw_bind h
    refine ga_last qd173_8 ho e8 ?_
    refine ga_jp (t := 15) qd173_9 rfl ?_
    refine go_s qd173_15 rfl ?_
    rw [← sw_sj h] at kk
    exact ga_ri qd173_16 qr173 (kk _ sw_kk.rf)
  · replace h := sw_elR g6 h
    by_cases hb10 : E4 = 0
    · replace h := sw_ifY hb10 h
      subst hb10
      refine sw_thh (L' := [some (.ref (z + 0)), some (.int (Int32.ofInt p1)), some (.ref (z + 228)), none]) qh173_4_0 (Nat.le_of_ble_eq_true rfl) rfl ?_
      refine go_s qd173_13 rfl ?_
      rw [← sw_sj h] at kk
      exact ga_ri qd173_14 qr173 (kk _ sw_kk.th)
    · replace h := sw_ifN hb10 h
      cases h
theorem qk174_32 : sw_ck 174 32 64 0 2 5 4 = true := by decide +kernel
theorem qr174 : sq_ret 174 = some .int := by decide +kernel
theorem qh174_5_0 : sw_hk 174 5 0 = some (19, 4) := by decide +kernel
theorem qh174_5_2 : sw_hk 174 5 2 = some (15, 4) := by decide +kernel
-- 174: SewingPilesLaw.set(LSewingPiles;II[J)I
def w174 (T : sw_T) (p1 : Int) (p2 : Int) : Option (Int × sw_T) :=
  (w64 T p1 p2).bind fun r2 =>
  sw_el r2 (fun r3 =>
    (sw_r1 r3.1).bind fun _u =>
    (sw_st r3.2 228 1 0 r3.1).bind fun T9 =>
    some ((0, T9))
  ) (fun E4 =>
  if E4 = 0 then
    some ((2, T))
  else
  if E4 = 2 then
    some ((1, T))
  else
  none)
theorem A174 {G : sp_G} {z n : Nat} (hn : 228 ≤ n) (hG : sw_G G z) (ho : sw_s n 228 = some (3, 1)) {T : sw_T} {K : sw_K} {p1 : Int} {p2 : Int} {res : Int × sw_T} {Q : sp_R → sp_M → Prop} (h : w174 T p1 p2 = some res) (kk : ∀ K' : sw_K, sw_kk K K' → Q (.inl (some (.int (Int32.ofInt res.1)))) (sw_M z n sw_Ft res.2 K')) : sq_go G 174 0 [some (.ref (z + 0)), some (.int (Int32.ofInt p1)), some (.int (Int32.ofInt p2)), some (.ref (z + 228)), none] [] (sw_M z n sw_Ft T K) Q := by
  unfold w174 at h
  refine go_l qd174_0 rfl ?_
  refine go_s qd174_1 rfl ?_
  refine go_l qd174_2 rfl ?_
  refine go_l qd174_3 rfl ?_
  refine go_l qd174_4 rfl ?_
  obtain ⟨r2, e1, h⟩ := sw_bind h
  refine ga_kv (a := 0) (as := [.int (Int32.ofInt p1), .int (Int32.ofInt p2)]) (rest := [.int (Int32.ofInt 0), .ref (z + 228)]) qd174_5 qk174_32 (sw_sl hn (by decide)) rfl rfl rfl (Nat.le_of_ble_eq_true rfl) (Nat.le_of_ble_eq_true rfl) rfl (A64 hn hG e1 (fun r3 g5 => ?_) (fun E4 g6 => ?_))
  · refine sw_bkv ?_
    replace h := sw_elL g5 h
    obtain ⟨_u, e7, h⟩ := sw_bind h
    refine ga_i2l qd174_8 e7 ?_
    obtain ⟨T9, e8, h⟩ := sw_bind h
    refine ga_last qd174_9 ho e8 ?_
    refine ga_jp (t := 21) qd174_10 rfl ?_
    refine go_s qd174_21 rfl ?_
    rw [← sw_sj h] at kk
    exact ga_ri qd174_22 qr174 (kk _ sw_kk.rf)
  · replace h := sw_elR g6 h
    by_cases hb10 : E4 = 0
    · replace h := sw_ifY hb10 h
      subst hb10
      refine sw_thh (L' := [some (.ref (z + 0)), some (.int (Int32.ofInt p1)), some (.int (Int32.ofInt p2)), some (.ref (z + 228)), none]) qh174_5_0 (Nat.le_of_ble_eq_true rfl) rfl ?_
      refine go_s qd174_19 rfl ?_
      rw [← sw_sj h] at kk
      exact ga_ri qd174_20 qr174 (kk _ sw_kk.th)
    · replace h := sw_ifN hb10 h
      by_cases hb11 : E4 = 2
      · replace h := sw_ifY hb11 h
        subst hb11
        refine sw_thh (L' := [some (.ref (z + 0)), some (.int (Int32.ofInt p1)), some (.int (Int32.ofInt p2)), some (.ref (z + 228)), none]) qh174_5_2 (Nat.le_of_ble_eq_true rfl) rfl ?_
        refine go_s qd174_15 rfl ?_
        rw [← sw_sj h] at kk
        exact ga_ri qd174_16 qr174 (kk _ sw_kk.th)
      · replace h := sw_ifN hb11 h
        cases h
theorem qk175_35 : sw_ck 175 35 65 0 1 5 2 = true := by decide +kernel
theorem qr175 : sq_ret 175 = some .int := by decide +kernel
theorem qh175_4_0 : sw_hk 175 4 0 = some (13, 3) := by decide +kernel
theorem qh175_4_1 : sw_hk 175 4 1 = some (16, 3) := by decide +kernel
-- 175: SewingPilesLaw.append(LSewingPiles;I[J)I
def w175 (T : sw_T) (p1 : Int) : Option (Int × sw_T) :=
  (w65 T p1).bind fun r2 =>
  sw_el r2 (fun r3 =>
    (sw_r1 r3.1).bind fun _u =>
    (sw_st r3.2 228 1 0 r3.1).bind fun T9 =>
    some ((0, T9))
  ) (fun E4 =>
  if E4 = 0 then
    some ((1, T))
  else
  if E4 = 1 then
    some ((2, T))
  else
  none)
theorem A175 {G : sp_G} {z n : Nat} (hn : 228 ≤ n) (ho : sw_s n 228 = some (3, 1)) {T : sw_T} {K : sw_K} {p1 : Int} {res : Int × sw_T} {Q : sp_R → sp_M → Prop} (h : w175 T p1 = some res) (kk : ∀ K' : sw_K, sw_kk K K' → Q (.inl (some (.int (Int32.ofInt res.1)))) (sw_M z n sw_Ft res.2 K')) : sq_go G 175 0 [some (.ref (z + 0)), some (.int (Int32.ofInt p1)), some (.ref (z + 228)), none] [] (sw_M z n sw_Ft T K) Q := by
  unfold w175 at h
  refine go_l qd175_0 rfl ?_
  refine go_s qd175_1 rfl ?_
  refine go_l qd175_2 rfl ?_
  refine go_l qd175_3 rfl ?_
  obtain ⟨r2, e1, h⟩ := sw_bind h
  refine ga_kv (a := 0) (as := [.int (Int32.ofInt p1)]) (rest := [.int (Int32.ofInt 0), .ref (z + 228)]) qd175_4 qk175_35 (sw_sl hn (by decide)) rfl rfl rfl (Nat.le_of_ble_eq_true rfl) (Nat.le_of_ble_eq_true rfl) rfl (A65 hn e1 (fun r3 g5 => ?_) (fun E4 g6 => ?_))
  · refine sw_bkv ?_
    replace h := sw_elL g5 h
    obtain ⟨_u, e7, h⟩ := sw_bind h
    refine ga_i2l qd175_7 e7 ?_
    obtain ⟨T9, e8, h⟩ := sw_bind h
    refine ga_last qd175_8 ho e8 ?_
    refine ga_jp (t := 18) qd175_9 rfl ?_
    refine go_s qd175_18 rfl ?_
    rw [← sw_sj h] at kk
    exact ga_ri qd175_19 qr175 (kk _ sw_kk.rf)
  · replace h := sw_elR g6 h
    by_cases hb10 : E4 = 0
    · replace h := sw_ifY hb10 h
      subst hb10
      refine sw_thh (L' := [some (.ref (z + 0)), some (.int (Int32.ofInt p1)), some (.ref (z + 228)), none]) qh175_4_0 (Nat.le_of_ble_eq_true rfl) rfl ?_
      refine go_s qd175_13 rfl ?_
      rw [← sw_sj h] at kk
      exact ga_ri qd175_14 qr175 (kk _ sw_kk.th)
    · replace h := sw_ifN hb10 h
      by_cases hb11 : E4 = 1
      · replace h := sw_ifY hb11 h
        subst hb11
        refine sw_thh (L' := [some (.ref (z + 0)), some (.int (Int32.ofInt p1)), some (.ref (z + 228)), none]) qh175_4_1 (Nat.le_of_ble_eq_true rfl) rfl ?_
        refine go_s qd175_16 rfl ?_
        rw [← sw_sj h] at kk
        exact ga_ri qd175_17 qr175 (kk _ sw_kk.th)
      · replace h := sw_ifN hb11 h
        cases h
theorem qk176_38 : sw_ck 176 38 68 0 0 5 3 = true := by decide +kernel
theorem qr176 : sq_ret 176 = some .int := by decide +kernel
theorem qh176_3_0 : sw_hk 176 3 0 = some (12, 2) := by decide +kernel
-- 176: SewingPilesLaw.obey(LSewingPiles;[J)I
def w176 (T : sw_T) : Option (Int × sw_T) :=
  (w68 T).bind fun r2 =>
  sw_el r2 (fun r3 =>
    (sw_r1 r3.1).bind fun _u =>
    (sw_st r3.2 228 1 0 r3.1).bind fun T9 =>
    some ((0, T9))
  ) (fun E4 =>
  if E4 = 0 then
    some ((1, T))
  else
  none)
theorem A176 {G : sp_G} {z n : Nat} (hn : 228 ≤ n) (ho : sw_s n 228 = some (3, 1)) {T : sw_T} {K : sw_K} {res : Int × sw_T} {Q : sp_R → sp_M → Prop} (h : w176 T = some res) (kk : ∀ K' : sw_K, sw_kk K K' → Q (.inl (some (.int (Int32.ofInt res.1)))) (sw_M z n sw_Ft res.2 K')) : sq_go G 176 0 [some (.ref (z + 0)), some (.ref (z + 228)), none] [] (sw_M z n sw_Ft T K) Q := by
  unfold w176 at h
  refine go_l qd176_0 rfl ?_
  refine go_s qd176_1 rfl ?_
  refine go_l qd176_2 rfl ?_
  obtain ⟨r2, e1, h⟩ := sw_bind h
  refine ga_kv (a := 0) (as := []) (rest := [.int (Int32.ofInt 0), .ref (z + 228)]) qd176_3 qk176_38 (sw_sl hn (by decide)) rfl rfl rfl (Nat.le_of_ble_eq_true rfl) (Nat.le_of_ble_eq_true rfl) rfl (A68 hn e1 (fun r3 g5 => ?_) (fun E4 g6 => ?_))
  · refine sw_bkv ?_
    replace h := sw_elL g5 h
    obtain ⟨_u, e7, h⟩ := sw_bind h
    refine ga_i2l qd176_6 e7 ?_
    obtain ⟨T9, e8, h⟩ := sw_bind h
    refine ga_last qd176_7 ho e8 ?_
    refine ga_jp (t := 14) qd176_8 rfl ?_
    refine go_s qd176_14 rfl ?_
    rw [← sw_sj h] at kk
    exact ga_ri qd176_15 qr176 (kk _ sw_kk.rf)
  · replace h := sw_elR g6 h
    by_cases hb10 : E4 = 0
    · replace h := sw_ifY hb10 h
      subst hb10
      refine sw_thh (L' := [some (.ref (z + 0)), some (.ref (z + 228)), none]) qh176_3_0 (Nat.le_of_ble_eq_true rfl) rfl ?_
      refine go_s qd176_12 rfl ?_
      rw [← sw_sj h] at kk
      exact ga_ri qd176_13 qr176 (kk _ sw_kk.th)
    · replace h := sw_ifN hb10 h
      cases h
theorem qk177_42 : sw_ck 177 42 70 0 0 5 1 = true := by decide +kernel
theorem qr177 : sq_ret 177 = some .int := by decide +kernel
theorem qh177_3_1 : sw_hk 177 3 1 = some (12, 2) := by decide +kernel
-- 177: SewingPilesLaw.goBack(LSewingPiles;[J)I
def w177 (T : sw_T) : Option (Int × sw_T) :=
  (w70 T).bind fun r2 =>
  sw_el r2 (fun r3 =>
    (sw_r1 r3.1).bind fun _u =>
    (sw_st r3.2 228 1 0 r3.1).bind fun T9 =>
    some ((0, T9))
  ) (fun E4 =>
  if E4 = 1 then
    some ((1, T))
  else
  none)
theorem A177 {G : sp_G} {z n : Nat} (hn : 228 ≤ n) (ho : sw_s n 228 = some (3, 1)) {T : sw_T} {K : sw_K} {res : Int × sw_T} {Q : sp_R → sp_M → Prop} (h : w177 T = some res) (kk : ∀ K' : sw_K, sw_kk K K' → Q (.inl (some (.int (Int32.ofInt res.1)))) (sw_M z n sw_Ft res.2 K')) : sq_go G 177 0 [some (.ref (z + 0)), some (.ref (z + 228)), none] [] (sw_M z n sw_Ft T K) Q := by
  unfold w177 at h
  refine go_l qd177_0 rfl ?_
  refine go_s qd177_1 rfl ?_
  refine go_l qd177_2 rfl ?_
  obtain ⟨r2, e1, h⟩ := sw_bind h
  refine ga_kv (a := 0) (as := []) (rest := [.int (Int32.ofInt 0), .ref (z + 228)]) qd177_3 qk177_42 (sw_sl hn (by decide)) rfl rfl rfl (Nat.le_of_ble_eq_true rfl) (Nat.le_of_ble_eq_true rfl) rfl (A70 hn e1 (fun r3 g5 => ?_) (fun E4 g6 => ?_))
  · refine sw_bkv ?_
    replace h := sw_elL g5 h
    obtain ⟨_u, e7, h⟩ := sw_bind h
    refine ga_i2l qd177_6 e7 ?_
    obtain ⟨T9, e8, h⟩ := sw_bind h
    refine ga_last qd177_7 ho e8 ?_
    refine ga_jp (t := 14) qd177_8 rfl ?_
    refine go_s qd177_14 rfl ?_
    rw [← sw_sj h] at kk
    exact ga_ri qd177_15 qr177 (kk _ sw_kk.rf)
  · replace h := sw_elR g6 h
    by_cases hb10 : E4 = 1
    · replace h := sw_ifY hb10 h
      subst hb10
      refine sw_thh (L' := [some (.ref (z + 0)), some (.ref (z + 228)), none]) qh177_3_1 (Nat.le_of_ble_eq_true rfl) rfl ?_
      refine go_s qd177_12 rfl ?_
      rw [← sw_sj h] at kk
      exact ga_ri qd177_13 qr177 (kk _ sw_kk.th)
    · replace h := sw_ifN hb10 h
      cases h
theorem qk178_45 : sw_ck 178 45 71 0 0 5 1 = true := by decide +kernel
theorem qr178 : sq_ret 178 = some .int := by decide +kernel
theorem qh178_3_1 : sw_hk 178 3 1 = some (12, 2) := by decide +kernel
-- 178: SewingPilesLaw.undo(LSewingPiles;[J)I
def w178 (T : sw_T) : Option (Int × sw_T) :=
  (w71 T).bind fun r2 =>
  sw_el r2 (fun r3 =>
    (sw_r1 r3.1).bind fun _u =>
    (sw_st r3.2 228 1 0 r3.1).bind fun T9 =>
    some ((0, T9))
  ) (fun E4 =>
  if E4 = 1 then
    some ((1, T))
  else
  none)
theorem A178 {G : sp_G} {z n : Nat} (hn : 228 ≤ n) (ho : sw_s n 228 = some (3, 1)) {T : sw_T} {K : sw_K} {res : Int × sw_T} {Q : sp_R → sp_M → Prop} (h : w178 T = some res) (kk : ∀ K' : sw_K, sw_kk K K' → Q (.inl (some (.int (Int32.ofInt res.1)))) (sw_M z n sw_Ft res.2 K')) : sq_go G 178 0 [some (.ref (z + 0)), some (.ref (z + 228)), none] [] (sw_M z n sw_Ft T K) Q := by
  unfold w178 at h
  refine go_l qd178_0 rfl ?_
  refine go_s qd178_1 rfl ?_
  refine go_l qd178_2 rfl ?_
  obtain ⟨r2, e1, h⟩ := sw_bind h
  refine ga_kv (a := 0) (as := []) (rest := [.int (Int32.ofInt 0), .ref (z + 228)]) qd178_3 qk178_45 (sw_sl hn (by decide)) rfl rfl rfl (Nat.le_of_ble_eq_true rfl) (Nat.le_of_ble_eq_true rfl) rfl (A71 hn e1 (fun r3 g5 => ?_) (fun E4 g6 => ?_))
  · refine sw_bkv ?_
    replace h := sw_elL g5 h
    obtain ⟨_u, e7, h⟩ := sw_bind h
    refine ga_i2l qd178_6 e7 ?_
    obtain ⟨T9, e8, h⟩ := sw_bind h
    refine ga_last qd178_7 ho e8 ?_
    refine ga_jp (t := 14) qd178_8 rfl ?_
    refine go_s qd178_14 rfl ?_
    rw [← sw_sj h] at kk
    exact ga_ri qd178_15 qr178 (kk _ sw_kk.rf)
  · replace h := sw_elR g6 h
    by_cases hb10 : E4 = 1
    · replace h := sw_ifY hb10 h
      subst hb10
      refine sw_thh (L' := [some (.ref (z + 0)), some (.ref (z + 228)), none]) qh178_3_1 (Nat.le_of_ble_eq_true rfl) rfl ?_
      refine go_s qd178_12 rfl ?_
      rw [← sw_sj h] at kk
      exact ga_ri qd178_13 qr178 (kk _ sw_kk.th)
    · replace h := sw_ifN hb10 h
      cases h
theorem qk179_48 : sw_ck 179 48 72 0 2 5 3 = true := by decide +kernel
theorem qr179 : sq_ret 179 = some .int := by decide +kernel
theorem qh179_5_0 : sw_hk 179 5 0 = some (19, 4) := by decide +kernel
theorem qh179_5_2 : sw_hk 179 5 2 = some (15, 4) := by decide +kernel
-- 179: SewingPilesLaw.seamstress(LSewingPiles;II[J)I
def w179 (T : sw_T) (p1 : Int) (p2 : Int) : Option (Int × sw_T) :=
  (w72 T p1 p2).bind fun r2 =>
  sw_el r2 (fun r3 =>
    (sw_r1 r3).bind fun _u =>
    (sw_st T 228 1 0 r3).bind fun T9 =>
    some ((0, T9))
  ) (fun E4 =>
  if E4 = 0 then
    some ((2, T))
  else
  if E4 = 2 then
    some ((1, T))
  else
  none)
theorem A179 {G : sp_G} {z n : Nat} (hn : 228 ≤ n) (ho : sw_s n 228 = some (3, 1)) {T : sw_T} {K : sw_K} {p1 : Int} {p2 : Int} {res : Int × sw_T} {Q : sp_R → sp_M → Prop} (h : w179 T p1 p2 = some res) (kk : ∀ K' : sw_K, sw_kk K K' → Q (.inl (some (.int (Int32.ofInt res.1)))) (sw_M z n sw_Ft res.2 K')) : sq_go G 179 0 [some (.ref (z + 0)), some (.int (Int32.ofInt p1)), some (.int (Int32.ofInt p2)), some (.ref (z + 228)), none] [] (sw_M z n sw_Ft T K) Q := by
  unfold w179 at h
  refine go_l qd179_0 rfl ?_
  refine go_s qd179_1 rfl ?_
  refine go_l qd179_2 rfl ?_
  refine go_l qd179_3 rfl ?_
  refine go_l qd179_4 rfl ?_
  obtain ⟨r2, e1, h⟩ := sw_bind h
  refine ga_kv (a := 0) (as := [.int (Int32.ofInt p1), .int (Int32.ofInt p2)]) (rest := [.int (Int32.ofInt 0), .ref (z + 228)]) qd179_5 qk179_48 (sw_sl hn (by decide)) rfl rfl rfl (Nat.le_of_ble_eq_true rfl) (Nat.le_of_ble_eq_true rfl) rfl (A72 hn e1 (fun r3 g5 => ?_) (fun E4 g6 => ?_))
  · refine sw_bkv ?_
    replace h := sw_elL g5 h
    obtain ⟨_u, e7, h⟩ := sw_bind h
    refine ga_i2l qd179_8 e7 ?_
    obtain ⟨T9, e8, h⟩ := sw_bind h
    refine ga_last qd179_9 ho e8 ?_
    refine ga_jp (t := 21) qd179_10 rfl ?_
    refine go_s qd179_21 rfl ?_
    rw [← sw_sj h] at kk
    exact ga_ri qd179_22 qr179 (kk _ sw_kk.rf)
  · replace h := sw_elR g6 h
    by_cases hb10 : E4 = 0
    · replace h := sw_ifY hb10 h
      subst hb10
      refine sw_thh (L' := [some (.ref (z + 0)), some (.int (Int32.ofInt p1)), some (.int (Int32.ofInt p2)), some (.ref (z + 228)), none]) qh179_5_0 (Nat.le_of_ble_eq_true rfl) rfl ?_
      refine go_s qd179_19 rfl ?_
      rw [← sw_sj h] at kk
      exact ga_ri qd179_20 qr179 (kk _ sw_kk.th)
    · replace h := sw_ifN hb10 h
      by_cases hb11 : E4 = 2
      · replace h := sw_ifY hb11 h
        subst hb11
        refine sw_thh (L' := [some (.ref (z + 0)), some (.int (Int32.ofInt p1)), some (.int (Int32.ofInt p2)), some (.ref (z + 228)), none]) qh179_5_2 (Nat.le_of_ble_eq_true rfl) rfl ?_
        refine go_s qd179_15 rfl ?_
        rw [← sw_sj h] at kk
        exact ga_ri qd179_16 qr179 (kk _ sw_kk.th)
      · replace h := sw_ifN hb11 h
        cases h
theorem qk180_51 : sw_ck 180 51 73 0 2 5 3 = true := by decide +kernel
theorem qr180 : sq_ret 180 = some .int := by decide +kernel
theorem qh180_5_0 : sw_hk 180 5 0 = some (19, 4) := by decide +kernel
theorem qh180_5_2 : sw_hk 180 5 2 = some (15, 4) := by decide +kernel
-- 180: SewingPilesLaw.pile(LSewingPiles;II[J)I
def w180 (T : sw_T) (p1 : Int) (p2 : Int) : Option (Int × sw_T) :=
  (w73 T p1 p2).bind fun r2 =>
  sw_el r2 (fun r3 =>
    (sw_r1 r3).bind fun _u =>
    (sw_st T 228 1 0 r3).bind fun T9 =>
    some ((0, T9))
  ) (fun E4 =>
  if E4 = 0 then
    some ((2, T))
  else
  if E4 = 2 then
    some ((1, T))
  else
  none)
theorem A180 {G : sp_G} {z n : Nat} (hn : 228 ≤ n) (ho : sw_s n 228 = some (3, 1)) {T : sw_T} {K : sw_K} {p1 : Int} {p2 : Int} {res : Int × sw_T} {Q : sp_R → sp_M → Prop} (h : w180 T p1 p2 = some res) (kk : ∀ K' : sw_K, sw_kk K K' → Q (.inl (some (.int (Int32.ofInt res.1)))) (sw_M z n sw_Ft res.2 K')) : sq_go G 180 0 [some (.ref (z + 0)), some (.int (Int32.ofInt p1)), some (.int (Int32.ofInt p2)), some (.ref (z + 228)), none] [] (sw_M z n sw_Ft T K) Q := by
  unfold w180 at h
  refine go_l qd180_0 rfl ?_
  refine go_s qd180_1 rfl ?_
  refine go_l qd180_2 rfl ?_
  refine go_l qd180_3 rfl ?_
  refine go_l qd180_4 rfl ?_
  obtain ⟨r2, e1, h⟩ := sw_bind h
  refine ga_kv (a := 0) (as := [.int (Int32.ofInt p1), .int (Int32.ofInt p2)]) (rest := [.int (Int32.ofInt 0), .ref (z + 228)]) qd180_5 qk180_51 (sw_sl hn (by decide)) rfl rfl rfl (Nat.le_of_ble_eq_true rfl) (Nat.le_of_ble_eq_true rfl) rfl (A73 hn e1 (fun r3 g5 => ?_) (fun E4 g6 => ?_))
  · refine sw_bkv ?_
    replace h := sw_elL g5 h
    obtain ⟨_u, e7, h⟩ := sw_bind h
    refine ga_i2l qd180_8 e7 ?_
    obtain ⟨T9, e8, h⟩ := sw_bind h
    refine ga_last qd180_9 ho e8 ?_
    refine ga_jp (t := 21) qd180_10 rfl ?_
    refine go_s qd180_21 rfl ?_
    rw [← sw_sj h] at kk
    exact ga_ri qd180_22 qr180 (kk _ sw_kk.rf)
  · replace h := sw_elR g6 h
    by_cases hb10 : E4 = 0
    · replace h := sw_ifY hb10 h
      subst hb10
      refine sw_thh (L' := [some (.ref (z + 0)), some (.int (Int32.ofInt p1)), some (.int (Int32.ofInt p2)), some (.ref (z + 228)), none]) qh180_5_0 (Nat.le_of_ble_eq_true rfl) rfl ?_
      refine go_s qd180_19 rfl ?_
      rw [← sw_sj h] at kk
      exact ga_ri qd180_20 qr180 (kk _ sw_kk.th)
    · replace h := sw_ifN hb10 h
      by_cases hb11 : E4 = 2
      · replace h := sw_ifY hb11 h
        subst hb11
        refine sw_thh (L' := [some (.ref (z + 0)), some (.int (Int32.ofInt p1)), some (.int (Int32.ofInt p2)), some (.ref (z + 228)), none]) qh180_5_2 (Nat.le_of_ble_eq_true rfl) rfl ?_
        refine go_s qd180_15 rfl ?_
        rw [← sw_sj h] at kk
        exact ga_ri qd180_16 qr180 (kk _ sw_kk.th)
      · replace h := sw_ifN hb11 h
        cases h
theorem qk181_54 : sw_ck 181 54 74 0 2 5 3 = true := by decide +kernel
theorem qr181 : sq_ret 181 = some .int := by decide +kernel
theorem qh181_5_0 : sw_hk 181 5 0 = some (19, 4) := by decide +kernel
theorem qh181_5_2 : sw_hk 181 5 2 = some (15, 4) := by decide +kernel
-- 181: SewingPilesLaw.shirt(LSewingPiles;II[J)I
def w181 (T : sw_T) (p1 : Int) (p2 : Int) : Option (Int × sw_T) :=
  (w74 T p1 p2).bind fun r2 =>
  sw_el r2 (fun r3 =>
    (sw_r1 r3).bind fun _u =>
    (sw_st T 228 1 0 r3).bind fun T9 =>
    some ((0, T9))
  ) (fun E4 =>
  if E4 = 0 then
    some ((2, T))
  else
  if E4 = 2 then
    some ((1, T))
  else
  none)
theorem A181 {G : sp_G} {z n : Nat} (hn : 228 ≤ n) (ho : sw_s n 228 = some (3, 1)) {T : sw_T} {K : sw_K} {p1 : Int} {p2 : Int} {res : Int × sw_T} {Q : sp_R → sp_M → Prop} (h : w181 T p1 p2 = some res) (kk : ∀ K' : sw_K, sw_kk K K' → Q (.inl (some (.int (Int32.ofInt res.1)))) (sw_M z n sw_Ft res.2 K')) : sq_go G 181 0 [some (.ref (z + 0)), some (.int (Int32.ofInt p1)), some (.int (Int32.ofInt p2)), some (.ref (z + 228)), none] [] (sw_M z n sw_Ft T K) Q := by
  unfold w181 at h
  refine go_l qd181_0 rfl ?_
  refine go_s qd181_1 rfl ?_
  refine go_l qd181_2 rfl ?_
  refine go_l qd181_3 rfl ?_
  refine go_l qd181_4 rfl ?_
  obtain ⟨r2, e1, h⟩ := sw_bind h
  refine ga_kv (a := 0) (as := [.int (Int32.ofInt p1), .int (Int32.ofInt p2)]) (rest := [.int (Int32.ofInt 0), .ref (z + 228)]) qd181_5 qk181_54 (sw_sl hn (by decide)) rfl rfl rfl (Nat.le_of_ble_eq_true rfl) (Nat.le_of_ble_eq_true rfl) rfl (A74 hn e1 (fun r3 g5 => ?_) (fun E4 g6 => ?_))
  · refine sw_bkv ?_
    replace h := sw_elL g5 h
    obtain ⟨_u, e7, h⟩ := sw_bind h
    refine ga_i2l qd181_8 e7 ?_
    obtain ⟨T9, e8, h⟩ := sw_bind h
    refine ga_last qd181_9 ho e8 ?_
    refine ga_jp (t := 21) qd181_10 rfl ?_
    refine go_s qd181_21 rfl ?_
    rw [← sw_sj h] at kk
    exact ga_ri qd181_22 qr181 (kk _ sw_kk.rf)
  · replace h := sw_elR g6 h
    by_cases hb10 : E4 = 0
    · replace h := sw_ifY hb10 h
      subst hb10
      refine sw_thh (L' := [some (.ref (z + 0)), some (.int (Int32.ofInt p1)), some (.int (Int32.ofInt p2)), some (.ref (z + 228)), none]) qh181_5_0 (Nat.le_of_ble_eq_true rfl) rfl ?_
      refine go_s qd181_19 rfl ?_
      rw [← sw_sj h] at kk
      exact ga_ri qd181_20 qr181 (kk _ sw_kk.th)
    · replace h := sw_ifN hb10 h
      by_cases hb11 : E4 = 2
      · replace h := sw_ifY hb11 h
        subst hb11
        refine sw_thh (L' := [some (.ref (z + 0)), some (.int (Int32.ofInt p1)), some (.int (Int32.ofInt p2)), some (.ref (z + 228)), none]) qh181_5_2 (Nat.le_of_ble_eq_true rfl) rfl ?_
        refine go_s qd181_15 rfl ?_
        rw [← sw_sj h] at kk
        exact ga_ri qd181_16 qr181 (kk _ sw_kk.th)
      · replace h := sw_ifN hb11 h
        cases h
theorem qk182_57 : sw_ck 182 57 75 0 1 5 2 = true := by decide +kernel
theorem qr182 : sq_ret 182 = some .int := by decide +kernel
theorem qh182_4_0 : sw_hk 182 4 0 = some (13, 3) := by decide +kernel
-- 182: SewingPilesLaw.count(LSewingPiles;I[J)I
def w182 (T : sw_T) (p1 : Int) : Option (Int × sw_T) :=
  (w75 T p1).bind fun r2 =>
  sw_el r2 (fun r3 =>
    (sw_r1 r3).bind fun _u =>
    (sw_st T 228 1 0 r3).bind fun T9 =>
    some ((0, T9))
  ) (fun E4 =>
  if E4 = 0 then
    some ((1, T))
  else
  none)
theorem A182 {G : sp_G} {z n : Nat} (hn : 228 ≤ n) (ho : sw_s n 228 = some (3, 1)) {T : sw_T} {K : sw_K} {p1 : Int} {res : Int × sw_T} {Q : sp_R → sp_M → Prop} (h : w182 T p1 = some res) (kk : ∀ K' : sw_K, sw_kk K K' → Q (.inl (some (.int (Int32.ofInt res.1)))) (sw_M z n sw_Ft res.2 K')) : sq_go G 182 0 [some (.ref (z + 0)), some (.int (Int32.ofInt p1)), some (.ref (z + 228)), none] [] (sw_M z n sw_Ft T K) Q := by
  unfold w182 at h
  refine go_l qd182_0 rfl ?_
  refine go_s qd182_1 rfl ?_
  refine go_l qd182_2 rfl ?_
  refine go_l qd182_3 rfl ?_
  obtain ⟨r2, e1, h⟩ := sw_bind h
  refine ga_kv (a := 0) (as := [.int (Int32.ofInt p1)]) (rest := [.int (Int32.ofInt 0), .ref (z + 228)]) qd182_4 qk182_57 (sw_sl hn (by decide)) rfl rfl rfl (Nat.le_of_ble_eq_true rfl) (Nat.le_of_ble_eq_true rfl) rfl (A75 hn e1 (fun r3 g5 => ?_) (fun E4 g6 => ?_))
  · refine sw_bkv ?_
    replace h := sw_elL g5 h
    obtain ⟨_u, e7, h⟩ := sw_bind h
    refine ga_i2l qd182_7 e7 ?_
    obtain ⟨T9, e8, h⟩ := sw_bind h
    refine ga_last qd182_8 ho e8 ?_
    refine ga_jp (t := 15) qd182_9 rfl ?_
    refine go_s qd182_15 rfl ?_
    rw [← sw_sj h] at kk
    exact ga_ri qd182_16 qr182 (kk _ sw_kk.rf)
  · replace h := sw_elR g6 h
    by_cases hb10 : E4 = 0
    · replace h := sw_ifY hb10 h
      subst hb10
      refine sw_thh (L' := [some (.ref (z + 0)), some (.int (Int32.ofInt p1)), some (.ref (z + 228)), none]) qh182_4_0 (Nat.le_of_ble_eq_true rfl) rfl ?_
      refine go_s qd182_13 rfl ?_
      rw [← sw_sj h] at kk
      exact ga_ri qd182_14 qr182 (kk _ sw_kk.th)
    · replace h := sw_ifN hb10 h
      cases h
theorem qk183_60 : sw_ck 183 60 76 0 1 5 2 = true := by decide +kernel
theorem qr183 : sq_ret 183 = some .int := by decide +kernel
theorem qh183_4_2 : sw_hk 183 4 2 = some (13, 3) := by decide +kernel
-- 183: SewingPilesLaw.setting(LSewingPiles;I[J)I
def w183 (T : sw_T) (p1 : Int) : Option (Int × sw_T) :=
  (w76 T p1).bind fun r2 =>
  sw_el r2 (fun r3 =>
    (sw_r1 r3).bind fun _u =>
    (sw_st T 228 1 0 r3).bind fun T9 =>
    some ((0, T9))
  ) (fun E4 =>
  if E4 = 2 then
    some ((1, T))
  else
  none)
theorem A183 {G : sp_G} {z n : Nat} (hn : 228 ≤ n) (ho : sw_s n 228 = some (3, 1)) {T : sw_T} {K : sw_K} {p1 : Int} {res : Int × sw_T} {Q : sp_R → sp_M → Prop} (h : w183 T p1 = some res) (kk : ∀ K' : sw_K, sw_kk K K' → Q (.inl (some (.int (Int32.ofInt res.1)))) (sw_M z n sw_Ft res.2 K')) : sq_go G 183 0 [some (.ref (z + 0)), some (.int (Int32.ofInt p1)), some (.ref (z + 228)), none] [] (sw_M z n sw_Ft T K) Q := by
  unfold w183 at h
  refine go_l qd183_0 rfl ?_
  refine go_s qd183_1 rfl ?_
  refine go_l qd183_2 rfl ?_
  refine go_l qd183_3 rfl ?_
  obtain ⟨r2, e1, h⟩ := sw_bind h
  refine ga_kv (a := 0) (as := [.int (Int32.ofInt p1)]) (rest := [.int (Int32.ofInt 0), .ref (z + 228)]) qd183_4 qk183_60 (sw_sl hn (by decide)) rfl rfl rfl (Nat.le_of_ble_eq_true rfl) (Nat.le_of_ble_eq_true rfl) rfl (A76 hn e1 (fun r3 g5 => ?_) (fun E4 g6 => ?_))
  · refine sw_bkv ?_
    replace h := sw_elL g5 h
    obtain ⟨_u, e7, h⟩ := sw_bind h
    refine ga_i2l qd183_7 e7 ?_
    obtain ⟨T9, e8, h⟩ := sw_bind h
    refine ga_last qd183_8 ho e8 ?_
    refine ga_jp (t := 15) qd183_9 rfl ?_
    refine go_s qd183_15 rfl ?_
    rw [← sw_sj h] at kk
    exact ga_ri qd183_16 qr183 (kk _ sw_kk.rf)
  · replace h := sw_elR g6 h
    by_cases hb10 : E4 = 2
    · replace h := sw_ifY hb10 h
      subst hb10
      refine sw_thh (L' := [some (.ref (z + 0)), some (.int (Int32.ofInt p1)), some (.ref (z + 228)), none]) qh183_4_2 (Nat.le_of_ble_eq_true rfl) rfl ?_
      refine go_s qd183_13 rfl ?_
      rw [← sw_sj h] at kk
      exact ga_ri qd183_14 qr183 (kk _ sw_kk.th)
    · replace h := sw_ifN hb10 h
      cases h
theorem qk184_63 : sw_ck 184 63 77 0 1 5 2 = true := by decide +kernel
theorem qr184 : sq_ret 184 = some .int := by decide +kernel
theorem qh184_4_2 : sw_hk 184 4 2 = some (13, 3) := by decide +kernel
-- 184: SewingPilesLaw.choice(LSewingPiles;I[J)I
def w184 (T : sw_T) (p1 : Int) : Option (Int × sw_T) :=
  (w77 T p1).bind fun r2 =>
  sw_el r2 (fun r3 =>
    (sw_r1 r3).bind fun _u =>
    (sw_st T 228 1 0 r3).bind fun T9 =>
    some ((0, T9))
  ) (fun E4 =>
  if E4 = 2 then
    some ((1, T))
  else
  none)
theorem A184 {G : sp_G} {z n : Nat} (hn : 228 ≤ n) (ho : sw_s n 228 = some (3, 1)) {T : sw_T} {K : sw_K} {p1 : Int} {res : Int × sw_T} {Q : sp_R → sp_M → Prop} (h : w184 T p1 = some res) (kk : ∀ K' : sw_K, sw_kk K K' → Q (.inl (some (.int (Int32.ofInt res.1)))) (sw_M z n sw_Ft res.2 K')) : sq_go G 184 0 [some (.ref (z + 0)), some (.int (Int32.ofInt p1)), some (.ref (z + 228)), none] [] (sw_M z n sw_Ft T K) Q := by
  unfold w184 at h
  refine go_l qd184_0 rfl ?_
  refine go_s qd184_1 rfl ?_
  refine go_l qd184_2 rfl ?_
  refine go_l qd184_3 rfl ?_
  obtain ⟨r2, e1, h⟩ := sw_bind h
  refine ga_kv (a := 0) (as := [.int (Int32.ofInt p1)]) (rest := [.int (Int32.ofInt 0), .ref (z + 228)]) qd184_4 qk184_63 (sw_sl hn (by decide)) rfl rfl rfl (Nat.le_of_ble_eq_true rfl) (Nat.le_of_ble_eq_true rfl) rfl (A77 hn e1 (fun r3 g5 => ?_) (fun E4 g6 => ?_))
  · refine sw_bkv ?_
    replace h := sw_elL g5 h
    obtain ⟨_u, e7, h⟩ := sw_bind h
    refine ga_i2l qd184_7 e7 ?_
    obtain ⟨T9, e8, h⟩ := sw_bind h
    refine ga_last qd184_8 ho e8 ?_
    refine ga_jp (t := 15) qd184_9 rfl ?_
    refine go_s qd184_15 rfl ?_
    rw [← sw_sj h] at kk
    exact ga_ri qd184_16 qr184 (kk _ sw_kk.rf)
  · replace h := sw_elR g6 h
    by_cases hb10 : E4 = 2
    · replace h := sw_ifY hb10 h
      subst hb10
      refine sw_thh (L' := [some (.ref (z + 0)), some (.int (Int32.ofInt p1)), some (.ref (z + 228)), none]) qh184_4_2 (Nat.le_of_ble_eq_true rfl) rfl ?_
      refine go_s qd184_13 rfl ?_
      rw [← sw_sj h] at kk
      exact ga_ri qd184_14 qr184 (kk _ sw_kk.th)
    · replace h := sw_ifN hb10 h
      cases h
theorem qk185_66 : sw_ck 185 66 80 0 1 5 2 = true := by decide +kernel
theorem qr185 : sq_ret 185 = some .int := by decide +kernel
theorem qh185_4_0 : sw_hk 185 4 0 = some (13, 3) := by decide +kernel
-- 185: SewingPilesLaw.doneWith(LSewingPiles;I[J)I
def w185 (T : sw_T) (p1 : Int) : Option (Int × sw_T) :=
  (w80 T p1).bind fun r2 =>
  sw_el r2 (fun r3 =>
    (sw_r1 r3.1).bind fun _u =>
    (sw_st r3.2 228 1 0 r3.1).bind fun T9 =>
    some ((0, T9))
  ) (fun E4 =>
  if E4 = 0 then
    some ((1, T))
  else
  none)
theorem A185 {G : sp_G} {z n : Nat} (hn : 228 ≤ n) (ho : sw_s n 228 = some (3, 1)) {T : sw_T} {K : sw_K} {p1 : Int} {res : Int × sw_T} {Q : sp_R → sp_M → Prop} (h : w185 T p1 = some res) (kk : ∀ K' : sw_K, sw_kk K K' → Q (.inl (some (.int (Int32.ofInt res.1)))) (sw_M z n sw_Ft res.2 K')) : sq_go G 185 0 [some (.ref (z + 0)), some (.int (Int32.ofInt p1)), some (.ref (z + 228)), none] [] (sw_M z n sw_Ft T K) Q := by
  unfold w185 at h
  refine go_l qd185_0 rfl ?_
  refine go_s qd185_1 rfl ?_
  refine go_l qd185_2 rfl ?_
  refine go_l qd185_3 rfl ?_
  obtain ⟨r2, e1, h⟩ := sw_bind h
  refine ga_kv (a := 0) (as := [.int (Int32.ofInt p1)]) (rest := [.int (Int32.ofInt 0), .ref (z + 228)]) qd185_4 qk185_66 (sw_sl hn (by decide)) rfl rfl rfl (Nat.le_of_ble_eq_true rfl) (Nat.le_of_ble_eq_true rfl) rfl (A80 hn e1 (fun r3 g5 => ?_) (fun E4 g6 => ?_))
  · refine sw_bkv ?_
    replace h := sw_elL g5 h
    obtain ⟨_u, e7, h⟩ := sw_bind h
    refine ga_i2l qd185_7 e7 ?_
    obtain ⟨T9, e8, h⟩ := sw_bind h
    refine ga_last qd185_8 ho e8 ?_
    refine ga_jp (t := 15) qd185_9 rfl ?_
    refine go_s qd185_15 rfl ?_
    rw [← sw_sj h] at kk
    exact ga_ri qd185_16 qr185 (kk _ sw_kk.rf)
  · replace h := sw_elR g6 h
    by_cases hb10 : E4 = 0
    · replace h := sw_ifY hb10 h
      subst hb10
      refine sw_thh (L' := [some (.ref (z + 0)), some (.int (Int32.ofInt p1)), some (.ref (z + 228)), none]) qh185_4_0 (Nat.le_of_ble_eq_true rfl) rfl ?_
      refine go_s qd185_13 rfl ?_
      rw [← sw_sj h] at kk
      exact ga_ri qd185_14 qr185 (kk _ sw_kk.th)
    · replace h := sw_ifN hb10 h
      cases h
theorem qk186_69 : sw_ck 186 69 81 0 2 5 3 = true := by decide +kernel
theorem qr186 : sq_ret 186 = some .int := by decide +kernel
theorem qh186_5_0 : sw_hk 186 5 0 = some (15, 4) := by decide +kernel
-- 186: SewingPilesLaw.ifPassed(LSewingPiles;II[J)I
def w186 (T : sw_T) (p1 : Int) (p2 : Int) : Option (Int × sw_T) :=
  (w81 T p1 p2).bind fun r2 =>
  sw_el r2 (fun r3 =>
    (sw_r1 r3.1).bind fun _u =>
    (sw_st r3.2 228 1 0 r3.1).bind fun T9 =>
    some ((0, T9))
  ) (fun E4 =>
  if E4 = 0 then
    some ((1, T))
  else
  none)
theorem A186 {G : sp_G} {z n : Nat} (hn : 228 ≤ n) (ho : sw_s n 228 = some (3, 1)) {T : sw_T} {K : sw_K} {p1 : Int} {p2 : Int} {res : Int × sw_T} {Q : sp_R → sp_M → Prop} (h : w186 T p1 p2 = some res) (kk : ∀ K' : sw_K, sw_kk K K' → Q (.inl (some (.int (Int32.ofInt res.1)))) (sw_M z n sw_Ft res.2 K')) : sq_go G 186 0 [some (.ref (z + 0)), some (.int (Int32.ofInt p1)), some (.int (Int32.ofInt p2)), some (.ref (z + 228)), none] [] (sw_M z n sw_Ft T K) Q := by
  unfold w186 at h
  refine go_l qd186_0 rfl ?_
  refine go_s qd186_1 rfl ?_
  refine go_l qd186_2 rfl ?_
  refine go_l qd186_3 rfl ?_
  refine go_l qd186_4 rfl ?_
  obtain ⟨r2, e1, h⟩ := sw_bind h
  refine ga_kv (a := 0) (as := [.int (Int32.ofInt p1), .int (Int32.ofInt p2)]) (rest := [.int (Int32.ofInt 0), .ref (z + 228)]) qd186_5 qk186_69 (sw_sl hn (by decide)) rfl rfl rfl (Nat.le_of_ble_eq_true rfl) (Nat.le_of_ble_eq_true rfl) rfl (A81 hn e1 (fun r3 g5 => ?_) (fun E4 g6 => ?_))
  · refine sw_bkv ?_
    replace h := sw_elL g5 h
    obtain ⟨_u, e7, h⟩ := sw_bind h
    refine ga_i2l qd186_8 e7 ?_
    obtain ⟨T9, e8, h⟩ := sw_bind h
    refine ga_last qd186_9 ho e8 ?_
    refine ga_jp (t := 17) qd186_10 rfl ?_
    refine go_s qd186_17 rfl ?_
    rw [← sw_sj h] at kk
    exact ga_ri qd186_18 qr186 (kk _ sw_kk.rf)
  · replace h := sw_elR g6 h
    by_cases hb10 : E4 = 0
    · replace h := sw_ifY hb10 h
      subst hb10
      refine sw_thh (L' := [some (.ref (z + 0)), some (.int (Int32.ofInt p1)), some (.int (Int32.ofInt p2)), some (.ref (z + 228)), none]) qh186_5_0 (Nat.le_of_ble_eq_true rfl) rfl ?_
      refine go_s qd186_15 rfl ?_
      rw [← sw_sj h] at kk
      exact ga_ri qd186_16 qr186 (kk _ sw_kk.th)
    · replace h := sw_ifN hb10 h
      cases h
theorem qk187_76 : sw_ck 187 76 169 1 3 7 4 = true := by decide +kernel
theorem qk187_81 : sw_ck 187 81 125 0 1 6 2 = true := by decide +kernel
theorem qk187_82 : sw_ck 187 82 95 0 0 6 1 = true := by decide +kernel
theorem qr187 : sq_ret 187 = some .boolean := by decide +kernel
theorem qk187_85 : sw_ck 187 85 170 1 4 7 5 = true := by decide +kernel
theorem qk187_88 : sw_ck 187 88 126 0 2 6 4 = true := by decide +kernel
theorem qk187_89 : sw_ck 187 89 171 1 4 7 5 = true := by decide +kernel
theorem qk187_91 : sw_ck 187 91 128 0 2 6 3 = true := by decide +kernel
theorem qk187_92 : sw_ck 187 92 172 1 3 7 4 = true := by decide +kernel
theorem qk187_94 : sw_ck 187 94 130 0 1 6 2 = true := by decide +kernel
theorem qk187_95 : sw_ck 187 95 173 1 3 7 4 = true := by decide +kernel
theorem qk187_97 : sw_ck 187 97 131 0 1 6 3 = true := by decide +kernel
theorem qk187_98 : sw_ck 187 98 174 1 4 7 5 = true := by decide +kernel
theorem qk187_100 : sw_ck 187 100 132 0 2 6 5 = true := by decide +kernel
theorem qk187_101 : sw_ck 187 101 175 1 3 7 4 = true := by decide +kernel
theorem qk187_103 : sw_ck 187 103 133 0 1 6 2 = true := by decide +kernel
theorem qk187_104 : sw_ck 187 104 66 0 0 5 1 = true := by decide +kernel
theorem qk187_107 : sw_ck 187 107 134 0 0 6 2 = true := by decide +kernel
theorem qk187_108 : sw_ck 187 108 67 0 0 5 1 = true := by decide +kernel
theorem qk187_111 : sw_ck 187 111 140 0 0 6 1 = true := by decide +kernel
theorem qk187_112 : sw_ck 187 112 176 1 2 7 3 = true := by decide +kernel
theorem qk187_115 : sw_ck 187 115 142 0 0 6 2 = true := by decide +kernel
theorem qk187_116 : sw_ck 187 116 69 0 0 5 1 = true := by decide +kernel
theorem qk187_119 : sw_ck 187 119 143 0 0 6 2 = true := by decide +kernel
theorem qk187_120 : sw_ck 187 120 177 1 2 7 3 = true := by decide +kernel
theorem qk187_122 : sw_ck 187 122 144 0 0 6 2 = true := by decide +kernel
theorem qk187_123 : sw_ck 187 123 178 1 2 7 3 = true := by decide +kernel
theorem qk187_125 : sw_ck 187 125 145 0 0 6 2 = true := by decide +kernel
theorem qk187_126 : sw_ck 187 126 179 1 4 7 5 = true := by decide +kernel
theorem qk187_128 : sw_ck 187 128 148 0 2 6 3 = true := by decide +kernel
theorem qk187_129 : sw_ck 187 129 180 1 4 7 5 = true := by decide +kernel
theorem qk187_131 : sw_ck 187 131 149 0 2 6 3 = true := by decide +kernel
theorem qk187_132 : sw_ck 187 132 181 1 4 7 5 = true := by decide +kernel
theorem qk187_134 : sw_ck 187 134 150 0 2 6 3 = true := by decide +kernel
theorem qk187_135 : sw_ck 187 135 182 1 3 7 4 = true := by decide +kernel
theorem qk187_137 : sw_ck 187 137 152 0 1 6 2 = true := by decide +kernel
theorem qk187_138 : sw_ck 187 138 183 1 3 7 4 = true := by decide +kernel
theorem qk187_140 : sw_ck 187 140 153 0 1 6 2 = true := by decide +kernel
theorem qk187_141 : sw_ck 187 141 184 1 3 7 4 = true := by decide +kernel
theorem qk187_143 : sw_ck 187 143 154 0 1 6 2 = true := by decide +kernel
theorem qk187_144 : sw_ck 187 144 78 0 0 5 1 = true := by decide +kernel
theorem qk187_147 : sw_ck 187 147 157 0 0 6 1 = true := by decide +kernel
theorem qk187_148 : sw_ck 187 148 79 0 0 5 1 = true := by decide +kernel
theorem qk187_151 : sw_ck 187 151 158 0 0 6 1 = true := by decide +kernel
theorem qk187_152 : sw_ck 187 152 185 1 3 7 4 = true := by decide +kernel
theorem qk187_154 : sw_ck 187 154 159 0 1 6 2 = true := by decide +kernel
theorem qk187_155 : sw_ck 187 155 186 1 4 7 5 = true := by decide +kernel
theorem qk187_157 : sw_ck 187 157 161 0 2 6 3 = true := by decide +kernel
theorem qk187_158 : sw_ck 187 158 82 0 0 5 1 = true := by decide +kernel
theorem qk187_162 : sw_ck 187 162 163 0 0 6 1 = true := by decide +kernel
theorem qk187_163 : sw_ck 187 163 83 0 0 5 5 = true := by decide +kernel
theorem qk187_167 : sw_ck 187 167 165 0 0 6 1 = true := by decide +kernel
theorem qk187_168 : sw_ck 187 168 84 0 0 5 4 = true := by decide +kernel
theorem qk187_172 : sw_ck 187 172 168 0 0 6 2 = true := by decide +kernel
-- 187: SewingPilesLaw.law([I)Z
def w187_23 (G : sp_G) : Nat → sw_T → Int → Option ((sw_T) ⊕ (Int × sw_T))
  | 0, _, _ => none
  | m + 1, T, l4 =>
    (sw_r2 l4 ((G.2.1 : Int) - 3)).bind fun _u =>
    if ((G.2.1 : Int) - 3) < l4 then
      some (.inl T)
    else
      (sw_ix G.2.1 l4).bind fun _u =>
      (sw_r1 ((sw_xs G l4) % 32)).bind fun _u =>
      if ((sw_xs G l4) % 32) = 0 then
        (sw_ix G.2.1 (l4 + 1)).bind fun _u =>
        (w169 T (sw_xs G (l4 + 1))).bind fun r8 =>
        (sw_ix G.2.1 (l4 + 1)).bind fun _u =>
        (w125 r8.2 (sw_xs G (l4 + 1))).bind fun r13 =>
        (w95 r13.2).bind fun r15 =>
        (sw_r2 r15 r8.1).bind fun _u =>
        if r15 = r8.1 then
          (sw_r1 r8.1).bind fun _u =>
          if r8.1 = 0 then
            (sw_ld r13.2 228 1 0).bind fun v21 =>
            (sw_r1 r13.1).bind fun _u =>
            if v21 = r13.1 then
              w187_23 G m r13.2 (l4 + 3)
            else
              (sw_l2 v21 r13.1).bind fun _u =>
              some (.inr ((0, r13.2)))
          else
            w187_23 G m r13.2 (l4 + 3)
        else
          some (.inr ((0, r13.2)))
      else
      if ((sw_xs G l4) % 32) = 1 then
        (sw_ix G.2.1 (l4 + 1)).bind fun _u =>
        (sw_ix G.2.1 (l4 + 2)).bind fun _u =>
        (w170 T (sw_xs G (l4 + 1)) (sw_xs G (l4 + 2))).bind fun r29 =>
        (sw_ix G.2.1 (l4 + 1)).bind fun _u =>
        (sw_ix G.2.1 (l4 + 2)).bind fun _u =>
        (w126 r29.2 (sw_xs G (l4 + 1)) (sw_xs G (l4 + 2))).bind fun r35 =>
        (w95 r35.2).bind fun r37 =>
        (sw_r2 r37 r29.1).bind fun _u =>
        if r37 = r29.1 then
          (sw_r1 r29.1).bind fun _u =>
          if r29.1 = 0 then
            (sw_ld r35.2 228 1 0).bind fun v43 =>
            (sw_r1 r35.1).bind fun _u =>
            if v43 = r35.1 then
              w187_23 G m r35.2 (l4 + 3)
            else
              (sw_l2 v43 r35.1).bind fun _u =>
              some (.inr ((0, r35.2)))
          else
            w187_23 G m r35.2 (l4 + 3)
        else
          some (.inr ((0, r35.2)))
      else
      if ((sw_xs G l4) % 32) = 2 then
        (sw_ix G.2.1 (l4 + 1)).bind fun _u =>
        (sw_ix G.2.1 (l4 + 2)).bind fun _u =>
        (w171 T (sw_xs G (l4 + 1)) (sw_xs G (l4 + 2))).bind fun r51 =>
        (sw_ix G.2.1 (l4 + 1)).bind fun _u =>
        (sw_ix G.2.1 (l4 + 2)).bind fun _u =>
        (w128 r51.2 (sw_xs G (l4 + 1)) (sw_xs G (l4 + 2))).bind fun r57 =>
        (w95 r57.2).bind fun r59 =>
        (sw_r2 r59 r51.1).bind fun _u =>
        if r59 = r51.1 then
          (sw_r1 r51.1).bind fun _u =>
          if r51.1 = 0 then
            (sw_ld r57.2 228 1 0).bind fun v65 =>
            (sw_r1 r57.1).bind fun _u =>
            if v65 = r57.1 then
              w187_23 G m r57.2 (l4 + 3)
            else
              (sw_l2 v65 r57.1).bind fun _u =>
              some (.inr ((0, r57.2)))
          else
            w187_23 G m r57.2 (l4 + 3)
        else
          some (.inr ((0, r57.2)))
      else
      if ((sw_xs G l4) % 32) = 3 then
        (sw_ix G.2.1 (l4 + 1)).bind fun _u =>
        (w172 T (sw_xs G (l4 + 1))).bind fun r72 =>
        (sw_ix G.2.1 (l4 + 1)).bind fun _u =>
        (w130 r72.2 (sw_xs G (l4 + 1))).bind fun r77 =>
        (w95 r77.2).bind fun r79 =>
        (sw_r2 r79 r72.1).bind fun _u =>
        if r79 = r72.1 then
          (sw_r1 r72.1).bind fun _u =>
          if r72.1 = 0 then
            (sw_ld r77.2 228 1 0).bind fun v85 =>
            (sw_r1 r77.1).bind fun _u =>
            if v85 = r77.1 then
              w187_23 G m r77.2 (l4 + 3)
            else
              (sw_l2 v85 r77.1).bind fun _u =>
              some (.inr ((0, r77.2)))
          else
            w187_23 G m r77.2 (l4 + 3)
        else
          some (.inr ((0, r77.2)))
      else
      if ((sw_xs G l4) % 32) = 4 then
        (sw_ix G.2.1 (l4 + 1)).bind fun _u =>
        (w173 T (sw_xs G (l4 + 1))).bind fun r92 =>
        (sw_ix G.2.1 (l4 + 1)).bind fun _u =>
        (w131 r92.2 (sw_xs G (l4 + 1))).bind fun r97 =>
        (w95 r97.2).bind fun r99 =>
        (sw_r2 r99 r92.1).bind fun _u =>
        if r99 = r92.1 then
          (sw_r1 r92.1).bind fun _u =>
          if r92.1 = 0 then
            (sw_ld r97.2 228 1 0).bind fun v105 =>
            (sw_r1 r97.1).bind fun _u =>
            if v105 = r97.1 then
              w187_23 G m r97.2 (l4 + 3)
            else
              (sw_l2 v105 r97.1).bind fun _u =>
              some (.inr ((0, r97.2)))
          else
            w187_23 G m r97.2 (l4 + 3)
        else
          some (.inr ((0, r97.2)))
      else
      if ((sw_xs G l4) % 32) = 5 then
        (sw_ix G.2.1 (l4 + 1)).bind fun _u =>
        (sw_ix G.2.1 (l4 + 2)).bind fun _u =>
        (w174 T (sw_xs G (l4 + 1)) (sw_xs G (l4 + 2))).bind fun r113 =>
        (sw_ix G.2.1 (l4 + 1)).bind fun _u =>
        (sw_ix G.2.1 (l4 + 2)).bind fun _u =>
        (w132 r113.2 (sw_xs G (l4 + 1)) (sw_xs G (l4 + 2))).bind fun r119 =>
        (w95 r119.2).bind fun r121 =>
        (sw_r2 r121 r113.1).bind fun _u =>
        if r121 = r113.1 then
          (sw_r1 r113.1).bind fun _u =>
          if r113.1 = 0 then
            (sw_ld r119.2 228 1 0).bind fun v127 =>
            (sw_r1 r119.1).bind fun _u =>
            if v127 = r119.1 then
              w187_23 G m r119.2 (l4 + 3)
            else
              (sw_l2 v127 r119.1).bind fun _u =>
              some (.inr ((0, r119.2)))
          else
            w187_23 G m r119.2 (l4 + 3)
        else
          some (.inr ((0, r119.2)))
      else
      if ((sw_xs G l4) % 32) = 6 then
        (sw_ix G.2.1 (l4 + 1)).bind fun _u =>
        (w175 T (sw_xs G (l4 + 1))).bind fun r134 =>
        (sw_ix G.2.1 (l4 + 1)).bind fun _u =>
        (w133 r134.2 (sw_xs G (l4 + 1))).bind fun r139 =>
        (w95 r139.2).bind fun r141 =>
        (sw_r2 r141 r134.1).bind fun _u =>
        if r141 = r134.1 then
          (sw_r1 r134.1).bind fun _u =>
          if r134.1 = 0 then
            (sw_ld r139.2 228 1 0).bind fun v147 =>
            (sw_r1 r139.1).bind fun _u =>
            if v147 = r139.1 then
              w187_23 G m r139.2 (l4 + 3)
            else
              (sw_l2 v147 r139.1).bind fun _u =>
              some (.inr ((0, r139.2)))
          else
            w187_23 G m r139.2 (l4 + 3)
        else
          some (.inr ((0, r139.2)))
      else
      if ((sw_xs G l4) % 32) = 7 then
        (w66 T).bind fun r153 =>
        (w134 r153.2).bind fun r155 =>
        (sw_r2 r153.1 r155.1).bind fun _u =>
        if r153.1 = r155.1 then
          w187_23 G m r155.2 (l4 + 3)
        else
          some (.inr ((0, r155.2)))
      else
      if ((sw_xs G l4) % 32) = 8 then
        (w67 T).bind fun r160 =>
        (w140 T).bind fun r162 =>
        (sw_r2 r160 r162.1).bind fun _u =>
        if r160 = r162.1 then
          w187_23 G m r162.2 (l4 + 3)
        else
          some (.inr ((0, r162.2)))
      else
      if ((sw_xs G l4) % 32) = 9 then
        (w176 T).bind fun r167 =>
        (w142 r167.2).bind fun r171 =>
        (w95 r171.2).bind fun r173 =>
        (sw_r2 r173 r167.1).bind fun _u =>
        if r173 = r167.1 then
          (sw_r1 r167.1).bind fun _u =>
          if r167.1 = 0 then
            (sw_ld r171.2 228 1 0).bind fun v179 =>
            (sw_r1 r171.1).bind fun _u =>
            if v179 = r171.1 then
              w187_23 G m r171.2 (l4 + 3)
            else
              (sw_l2 v179 r171.1).bind fun _u =>
              some (.inr ((0, r171.2)))
          else
            w187_23 G m r171.2 (l4 + 3)
        else
          some (.inr ((0, r171.2)))
      else
      if ((sw_xs G l4) % 32) = 10 then
        (w69 T).bind fun r185 =>
        (w143 r185.2).bind fun r187 =>
        (sw_r2 r185.1 r187.1).bind fun _u =>
        if r185.1 = r187.1 then
          w187_23 G m r187.2 (l4 + 3)
        else
          some (.inr ((0, r187.2)))
      else
      if ((sw_xs G l4) % 32) = 11 then
        (w177 T).bind fun r192 =>
        (w144 r192.2).bind fun r196 =>
        (w95 r196.2).bind fun r198 =>
        (sw_r2 r198 r192.1).bind fun _u =>
        if r198 = r192.1 then
          (sw_r1 r192.1).bind fun _u =>
          if r192.1 = 0 then
            (sw_ld r196.2 228 1 0).bind fun v204 =>
            (sw_r1 r196.1).bind fun _u =>
            if v204 = r196.1 then
              w187_23 G m r196.2 (l4 + 3)
            else
              (sw_l2 v204 r196.1).bind fun _u =>
              some (.inr ((0, r196.2)))
          else
            w187_23 G m r196.2 (l4 + 3)
        else
          some (.inr ((0, r196.2)))
      else
      if ((sw_xs G l4) % 32) = 12 then
        (w178 T).bind fun r210 =>
        (w145 r210.2).bind fun r214 =>
        (w95 r214.2).bind fun r216 =>
        (sw_r2 r216 r210.1).bind fun _u =>
        if r216 = r210.1 then
          (sw_r1 r210.1).bind fun _u =>
          if r210.1 = 0 then
            (sw_ld r214.2 228 1 0).bind fun v222 =>
            (sw_r1 r214.1).bind fun _u =>
            if v222 = r214.1 then
              w187_23 G m r214.2 (l4 + 3)
            else
              (sw_l2 v222 r214.1).bind fun _u =>
              some (.inr ((0, r214.2)))
          else
            w187_23 G m r214.2 (l4 + 3)
        else
          some (.inr ((0, r214.2)))
      else
      if ((sw_xs G l4) % 32) = 13 then
        (sw_ix G.2.1 (l4 + 1)).bind fun _u =>
        (sw_ix G.2.1 (l4 + 2)).bind fun _u =>
        (w179 T (sw_xs G (l4 + 1)) (sw_xs G (l4 + 2))).bind fun r230 =>
        (sw_ix G.2.1 (l4 + 1)).bind fun _u =>
        (sw_ix G.2.1 (l4 + 2)).bind fun _u =>
        (w148 r230.2 (sw_xs G (l4 + 1)) (sw_xs G (l4 + 2))).bind fun r236 =>
        (w95 r236.2).bind fun r238 =>
        (sw_r2 r238 r230.1).bind fun _u =>
        if r238 = r230.1 then
          (sw_r1 r230.1).bind fun _u =>
          if r230.1 = 0 then
            (sw_ld r236.2 228 1 0).bind fun v244 =>
            (sw_r1 r236.1).bind fun _u =>
            if v244 = r236.1 then
              w187_23 G m r236.2 (l4 + 3)
            else
              (sw_l2 v244 r236.1).bind fun _u =>
              some (.inr ((0, r236.2)))
          else
            w187_23 G m r236.2 (l4 + 3)
        else
          some (.inr ((0, r236.2)))
      else
      if ((sw_xs G l4) % 32) = 14 then
        (sw_ix G.2.1 (l4 + 1)).bind fun _u =>
        (sw_ix G.2.1 (l4 + 2)).bind fun _u =>
        (w180 T (sw_xs G (l4 + 1)) (sw_xs G (l4 + 2))).bind fun r252 =>
        (sw_ix G.2.1 (l4 + 1)).bind fun _u =>
        (sw_ix G.2.1 (l4 + 2)).bind fun _u =>
        (w149 r252.2 (sw_xs G (l4 + 1)) (sw_xs G (l4 + 2))).bind fun r258 =>
        (w95 r258.2).bind fun r260 =>
        (sw_r2 r260 r252.1).bind fun _u =>
        if r260 = r252.1 then
          (sw_r1 r252.1).bind fun _u =>
          if r252.1 = 0 then
            (sw_ld r258.2 228 1 0).bind fun v266 =>
            (sw_r1 r258.1).bind fun _u =>
            if v266 = r258.1 then
              w187_23 G m r258.2 (l4 + 3)
            else
              (sw_l2 v266 r258.1).bind fun _u =>
              some (.inr ((0, r258.2)))
          else
            w187_23 G m r258.2 (l4 + 3)
        else
          some (.inr ((0, r258.2)))
      else
      if ((sw_xs G l4) % 32) = 15 then
        (sw_ix G.2.1 (l4 + 1)).bind fun _u =>
        (sw_ix G.2.1 (l4 + 2)).bind fun _u =>
        (w181 T (sw_xs G (l4 + 1)) (sw_xs G (l4 + 2))).bind fun r274 =>
        (sw_ix G.2.1 (l4 + 1)).bind fun _u =>
        (sw_ix G.2.1 (l4 + 2)).bind fun _u =>
        (w150 r274.2 (sw_xs G (l4 + 1)) (sw_xs G (l4 + 2))).bind fun r280 =>
        (w95 r280.2).bind fun r282 =>
        (sw_r2 r282 r274.1).bind fun _u =>
        if r282 = r274.1 then
          (sw_r1 r274.1).bind fun _u =>
          if r274.1 = 0 then
            (sw_ld r280.2 228 1 0).bind fun v288 =>
            (sw_r1 r280.1).bind fun _u =>
            if v288 = r280.1 then
              w187_23 G m r280.2 (l4 + 3)
            else
              (sw_l2 v288 r280.1).bind fun _u =>
              some (.inr ((0, r280.2)))
          else
            w187_23 G m r280.2 (l4 + 3)
        else
          some (.inr ((0, r280.2)))
      else
      if ((sw_xs G l4) % 32) = 16 then
        (sw_ix G.2.1 (l4 + 1)).bind fun _u =>
        (w182 T (sw_xs G (l4 + 1))).bind fun r295 =>
        (sw_ix G.2.1 (l4 + 1)).bind fun _u =>
        (w152 r295.2 (sw_xs G (l4 + 1))).bind fun r300 =>
        (w95 r300.2).bind fun r302 =>
        (sw_r2 r302 r295.1).bind fun _u =>
        if r302 = r295.1 then
          (sw_r1 r295.1).bind fun _u =>
          if r295.1 = 0 then
            (sw_ld r300.2 228 1 0).bind fun v308 =>
            (sw_r1 r300.1).bind fun _u =>
            if v308 = r300.1 then
              w187_23 G m r300.2 (l4 + 3)
            else
              (sw_l2 v308 r300.1).bind fun _u =>
              some (.inr ((0, r300.2)))
          else
            w187_23 G m r300.2 (l4 + 3)
        else
          some (.inr ((0, r300.2)))
      else
      if ((sw_xs G l4) % 32) = 17 then
        (sw_ix G.2.1 (l4 + 1)).bind fun _u =>
        (w183 T (sw_xs G (l4 + 1))).bind fun r315 =>
        (sw_ix G.2.1 (l4 + 1)).bind fun _u =>
        (w153 r315.2 (sw_xs G (l4 + 1))).bind fun r320 =>
        (w95 r320.2).bind fun r322 =>
        (sw_r2 r322 r315.1).bind fun _u =>
        if r322 = r315.1 then
          (sw_r1 r315.1).bind fun _u =>
          if r315.1 = 0 then
            (sw_ld r320.2 228 1 0).bind fun v328 =>
            (sw_r1 r320.1).bind fun _u =>
            if v328 = r320.1 then
              w187_23 G m r320.2 (l4 + 3)
            else
              (sw_l2 v328 r320.1).bind fun _u =>
              some (.inr ((0, r320.2)))
          else
            w187_23 G m r320.2 (l4 + 3)
        else
          some (.inr ((0, r320.2)))
      else
      if ((sw_xs G l4) % 32) = 18 then
        (sw_ix G.2.1 (l4 + 1)).bind fun _u =>
        (w184 T (sw_xs G (l4 + 1))).bind fun r335 =>
        (sw_ix G.2.1 (l4 + 1)).bind fun _u =>
        (w154 r335.2 (sw_xs G (l4 + 1))).bind fun r340 =>
        (w95 r340.2).bind fun r342 =>
        (sw_r2 r342 r335.1).bind fun _u =>
        if r342 = r335.1 then
          (sw_r1 r335.1).bind fun _u =>
          if r335.1 = 0 then
            (sw_ld r340.2 228 1 0).bind fun v348 =>
            (sw_r1 r340.1).bind fun _u =>
            if v348 = r340.1 then
              w187_23 G m r340.2 (l4 + 3)
            else
              (sw_l2 v348 r340.1).bind fun _u =>
              some (.inr ((0, r340.2)))
          else
            w187_23 G m r340.2 (l4 + 3)
        else
          some (.inr ((0, r340.2)))
      else
      if ((sw_xs G l4) % 32) = 19 then
        (w78 T).bind fun r354 =>
        (w157 r354.2).bind fun r356 =>
        (sw_r2 r354.1 r356.1).bind fun _u =>
        if r354.1 = r356.1 then
          w187_23 G m r356.2 (l4 + 3)
        else
          some (.inr ((0, r356.2)))
      else
      if ((sw_xs G l4) % 32) = 20 then
        (w79 T).bind fun r361 =>
        (w158 r361.2).bind fun r363 =>
        (sw_r2 r361.1 r363.1).bind fun _u =>
        if r361.1 = r363.1 then
          w187_23 G m r363.2 (l4 + 3)
        else
          some (.inr ((0, r363.2)))
      else
      if ((sw_xs G l4) % 32) = 21 then
        (sw_ix G.2.1 (l4 + 1)).bind fun _u =>
        (w185 T (sw_xs G (l4 + 1))).bind fun r369 =>
        (sw_ix G.2.1 (l4 + 1)).bind fun _u =>
        (w159 r369.2 (sw_xs G (l4 + 1))).bind fun r374 =>
        (w95 r374.2).bind fun r376 =>
        (sw_r2 r376 r369.1).bind fun _u =>
        if r376 = r369.1 then
          (sw_r1 r369.1).bind fun _u =>
          if r369.1 = 0 then
            (sw_ld r374.2 228 1 0).bind fun v382 =>
            (sw_r1 r374.1).bind fun _u =>
            if v382 = r374.1 then
              w187_23 G m r374.2 (l4 + 3)
            else
              (sw_l2 v382 r374.1).bind fun _u =>
              some (.inr ((0, r374.2)))
          else
            w187_23 G m r374.2 (l4 + 3)
        else
          some (.inr ((0, r374.2)))
      else
      if ((sw_xs G l4) % 32) = 22 then
        (sw_ix G.2.1 (l4 + 1)).bind fun _u =>
        (sw_ix G.2.1 (l4 + 2)).bind fun _u =>
        (w186 T (sw_xs G (l4 + 1)) (sw_xs G (l4 + 2))).bind fun r390 =>
        (sw_ix G.2.1 (l4 + 1)).bind fun _u =>
        (sw_ix G.2.1 (l4 + 2)).bind fun _u =>
        (w161 r390.2 (sw_xs G (l4 + 1)) (sw_xs G (l4 + 2))).bind fun r396 =>
        (w95 r396.2).bind fun r398 =>
        (sw_r2 r398 r390.1).bind fun _u =>
        if r398 = r390.1 then
          (sw_r1 r390.1).bind fun _u =>
          if r390.1 = 0 then
            (sw_ld r396.2 228 1 0).bind fun v404 =>
            (sw_r1 r396.1).bind fun _u =>
            if v404 = r396.1 then
              w187_23 G m r396.2 (l4 + 3)
            else
              (sw_l2 v404 r396.1).bind fun _u =>
              some (.inr ((0, r396.2)))
          else
            w187_23 G m r396.2 (l4 + 3)
        else
          some (.inr ((0, r396.2)))
      else
      if ((sw_xs G l4) % 32) = 23 then
        (w82 T).bind fun r410 =>
        (w163 T).bind fun r412 =>
        (sw_r1 ((Op.cmpValue (FP.dcmp r410 r412.1) .l).toInt)).bind fun _u =>
        if ((Op.cmpValue (FP.dcmp r410 r412.1) .l).toInt) = 0 then
          w187_23 G m r412.2 (l4 + 3)
        else
          (sw_r1 ((Op.cmpValue (FP.dcmp r410 r410) .l).toInt)).bind fun _u =>
          if ((Op.cmpValue (FP.dcmp r410 r410) .l).toInt) = 0 then
            some (.inr ((0, r412.2)))
          else
            (sw_r1 ((Op.cmpValue (FP.dcmp r412.1 r412.1) .l).toInt)).bind fun _u =>
            if ((Op.cmpValue (FP.dcmp r412.1 r412.1) .l).toInt) = 0 then
              some (.inr ((0, r412.2)))
            else
              w187_23 G m r412.2 (l4 + 3)
      else
      if ((sw_xs G l4) % 32) = 24 then
        (w83 T).bind fun r421 =>
        (sw_k64 (FP.f2d r421)).bind fun _u =>
        (w165 T).bind fun r424 =>
        (sw_k64 (FP.f2d r424.1)).bind fun _u =>
        (sw_r1 ((Op.cmpValue (FP.dcmp (FP.f2d r421) (FP.f2d r424.1)) .l).toInt)).bind fun _u =>
        if ((Op.cmpValue (FP.dcmp (FP.f2d r421) (FP.f2d r424.1)) .l).toInt) = 0 then
          w187_23 G m r424.2 (l4 + 3)
        else
          (sw_r1 ((Op.cmpValue (FP.dcmp (FP.f2d r421) (FP.f2d r421)) .l).toInt)).bind fun _u =>
          if ((Op.cmpValue (FP.dcmp (FP.f2d r421) (FP.f2d r421)) .l).toInt) = 0 then
            some (.inr ((0, r424.2)))
          else
            (sw_r1 ((Op.cmpValue (FP.dcmp (FP.f2d r424.1) (FP.f2d r424.1)) .l).toInt)).bind fun _u =>
            if ((Op.cmpValue (FP.dcmp (FP.f2d r424.1) (FP.f2d r424.1)) .l).toInt) = 0 then
              some (.inr ((0, r424.2)))
            else
              w187_23 G m r424.2 (l4 + 3)
      else
      if ((sw_xs G l4) % 32) = 25 then
        (w84 T).bind fun r434 =>
        (w168 r434.2).bind fun r436 =>
        if r434.1 = r436.1 then
          w187_23 G m r436.2 (l4 + 3)
        else
          (sw_l2 r434.1 r436.1).bind fun _u =>
          some (.inr ((0, r436.2)))
      else
        w187_23 G m T (l4 + 3)
theorem B187_23 {G : sp_G} {z n : Nat} (hn : 228 ≤ n) (hG : sw_G G z) (ho : sw_s n 228 = some (3, 1)) {res : (sw_T) ⊕ (Int × sw_T)} {Q : sp_R → sp_M → Prop} : ∀ (m : Nat) (T : sw_T) (l4 : Int) (K : sw_K) (kk : ∀ K' : sw_K, (K'.2.1 ≤ K.2.1 + m ∧ K'.2.2 ≤ K.2.2 + 6 * m) → ∀ s, res = .inl s → sq_go G 187 1381 [none, none, none, none, none, none, none, none, none] [] (sw_M z n sw_Ft s K') Q) (kr : ∀ K' : sw_K, (K'.2.1 ≤ K.2.1 + m ∧ K'.2.2 ≤ K.2.2 + 6 * m) → ∀ r, res = .inr r → Q (.inl (some (.int (Int32.ofInt r.1)))) (sw_M z n sw_Ft r.2 K')), w187_23 G m T l4 = some res → sq_go G 187 23 [some (.ref G.1), some (.ref (z + 0)), some (.ref (z + 221)), some (.ref (z + 228)), some (.int (Int32.ofInt l4)), none, none, none, none] [] (sw_M z n sw_Ft T K) Q := by
  intro m
  induction m with
  | zero => intro T l4 K kk kr h; cases h
  | succ m ih =>
    intro T l4 K kk kr h
    rw [w187_23] at h
    refine go_l qd187_23 rfl ?_
    refine go_l qd187_25 rfl ?_
    refine ga_alG qd187_26 hG.2.1 ?_
    refine go_s qd187_27 rfl ?_
    refine ga_isub qd187_28 ?_
    obtain ⟨_u, e1, h⟩ := sw_bind h
    by_cases hb2 : ((G.2.1 : Int) - 3) < l4
    · replace h := sw_ifY hb2 h
      refine ga_cgtY (t := 1381) qd187_29 e1 hb2 rfl ?_
      exact sq_weak (L := [none, none, none, none, none, none, none, none, none]) trivial (kk _ ⟨by omega, by omega⟩ _ (sw_sj h).symm)
    · replace h := sw_ifN hb2 h
      refine ga_cgtN (t := 1381) qd187_29 e1 hb2 rfl ?_
      refine go_l qd187_32 rfl ?_
      refine go_l qd187_33 rfl ?_
      obtain ⟨_u, e3, h⟩ := sw_bind h
      refine ga_ldG qd187_35 hG.2.1 hG.1 e3 ?_
      refine ga_k8 qd187_36 rfl ?_
      refine ga_iand qd187_38 ?_
      obtain ⟨_u, e4, h⟩ := sw_bind h
      by_cases hb5 : ((sw_xs G l4) % 32) = 0
      · replace h := sw_ifY hb5 h
        refine ga_sw (t := 156) qd187_39 rfl hb5 rfl ?_
        refine go_l qd187_156 rfl ?_
        refine go_l qd187_157 rfl ?_
        refine go_l qd187_158 rfl ?_
        refine go_s qd187_160 rfl ?_
        refine ga_iadd qd187_161 ?_
        obtain ⟨_u, e6, h⟩ := sw_bind h
        refine ga_ldG qd187_162 hG.2.1 hG.1 e6 ?_
        refine go_l qd187_163 rfl ?_
        obtain ⟨r8, e7, h⟩ := sw_bind h
        refine ga_kS (as := [.ref (z + 0), .int (Int32.ofInt (sw_xs G (l4 + 1))), .ref (z + 228)]) (rest := []) qd187_164 qk187_76 rfl rfl (Nat.le_of_ble_eq_true rfl) (Nat.le_of_ble_eq_true rfl) rfl (A169 hn ho e7 (fun K9 hk10 => sw_bkv ?_))
        refine go_l (L' := [some (.ref G.1), some (.ref (z + 0)), some (.ref (z + 221)), some (.ref (z + 228)), some (.int (Int32.ofInt l4)), some (.int (Int32.ofInt r8.1)), none, none, none]) (st' := []) qd187_167 rfl ?_
        refine go_l qd187_169 rfl ?_
        refine go_l qd187_170 rfl ?_
        refine go_l qd187_171 rfl ?_
        refine go_s qd187_173 rfl ?_
        refine ga_iadd qd187_174 ?_
        obtain ⟨_u, e11, h⟩ := sw_bind h
        refine ga_ldG qd187_175 hG.2.1 hG.1 e11 ?_
        obtain ⟨r13, e12, h⟩ := sw_bind h
        refine ga_kv (a := 221) (as := [.int (Int32.ofInt (sw_xs G (l4 + 1)))]) (rest := []) qd187_176 qk187_81 (sw_sl hn (by decide)) rfl rfl rfl (Nat.le_of_ble_eq_true rfl) (Nat.le_of_ble_eq_true rfl) rfl (A125 hn e12 (sw_bkv ?_))
        refine go_l (L' := [some (.ref G.1), some (.ref (z + 0)), some (.ref (z + 221)), some (.ref (z + 228)), some (.int (Int32.ofInt l4)), some (.int (Int32.ofInt r8.1)), some (.int (Int32.ofInt r13.1)), none, none]) (st' := []) qd187_179 rfl ?_
        refine go_l qd187_181 rfl ?_
        obtain ⟨r15, e14, h⟩ := sw_bind h
        refine ga_kv (a := 221) (as := []) (rest := []) qd187_182 qk187_82 (sw_sl hn (by decide)) rfl rfl rfl (Nat.le_of_ble_eq_true rfl) (Nat.le_of_ble_eq_true rfl) rfl (A95 hn e14 (sw_bkv ?_))
        refine go_l qd187_185 rfl ?_
        obtain ⟨_u, e16, h⟩ := sw_bind h
        by_cases hb17 : r15 = r8.1
        · replace h := sw_ifY hb17 h
          refine ga_ceqY (t := 192) qd187_187 e16 hb17 rfl ?_
          refine go_l qd187_192 rfl ?_
          obtain ⟨_u, e18, h⟩ := sw_bind h
          by_cases hb19 : r8.1 = 0
          · replace h := sw_ifY hb19 h
            refine ga_zneY (t := 209) qd187_194 e18 hb19 rfl ?_
            refine go_l qd187_197 rfl ?_
            refine go_s qd187_198 rfl ?_
            obtain ⟨v21, e20, h⟩ := sw_bind h
            refine ga_lald qd187_199 ho e20 ?_
            refine go_l qd187_200 rfl ?_
            obtain ⟨_u, e22, h⟩ := sw_bind h
            refine ga_i2l qd187_202 e22 ?_
            by_cases hb24 : v21 = r13.1
            · replace h := sw_ifY hb24 h
              refine ga_lceY (t := 209) qd187_203 hb24 qd187_204 rfl ?_
              refine ga_jp (t := 1375) qd187_209 rfl ?_
              refine ga_ii (L' := [some (.ref G.1), some (.ref (z + 0)), some (.ref (z + 221)), some (.ref (z + 228)), some (.int (Int32.ofInt (l4 + 3))), some (.int (Int32.ofInt r8.1)), some (.int (Int32.ofInt r13.1)), none, none]) qd187_1375 rfl rfl ?_
              refine ga_jp (t := 23) qd187_1378 rfl ?_
              exact sq_weak (L := [some (.ref G.1), some (.ref (z + 0)), some (.ref (z + 221)), some (.ref (z + 228)), some (.int (Int32.ofInt (l4 + 3))), none, none, none, none]) ⟨rfl, rfl, rfl, rfl, rfl, trivial⟩ (ih r13.2 (l4 + 3) K9 (fun K2 hK2 => kk K2 (⟨by have := hK2.1; have := hk10.1; omega, by have := hK2.2; have := hk10.2; omega⟩)) (fun K2 hK2 => kr K2 (⟨by have := hK2.1; have := hk10.1; omega, by have := hK2.2; have := hk10.2; omega⟩)) h)
            · replace h := sw_ifN hb24 h
              obtain ⟨_u, e23, h⟩ := sw_bind h
              refine ga_lceN (t := 209) qd187_203 e23 hb24 qd187_204 rfl ?_
              refine go_s qd187_207 rfl ?_
              exact ga_rb (u := ()) qd187_208 qr187 (by decide) (kr _ ⟨by have := hk10.1; omega, by have := hk10.2; omega⟩ _ (sw_sj h).symm)
          · replace h := sw_ifN hb19 h
            refine ga_zneN (t := 209) qd187_194 e18 hb19 rfl ?_
            refine ga_jp (t := 1375) qd187_209 rfl ?_
            refine ga_ii (L' := [some (.ref G.1), some (.ref (z + 0)), some (.ref (z + 221)), some (.ref (z + 228)), some (.int (Int32.ofInt (l4 + 3))), some (.int (Int32.ofInt r8.1)), some (.int (Int32.ofInt r13.1)), none, none]) qd187_1375 rfl rfl ?_
            refine ga_jp (t := 23) qd187_1378 rfl ?_
            exact sq_weak (L := [some (.ref G.1), some (.ref (z + 0)), some (.ref (z + 221)), some (.ref (z + 228)), some (.int (Int32.ofInt (l4 + 3))), none, none, none, none]) ⟨rfl, rfl, rfl, rfl, rfl, trivial⟩ (ih r13.2 (l4 + 3) K9 (fun K2 hK2 => kk K2 (⟨by have := hK2.1; have := hk10.1; omega, by have := hK2.2; have := hk10.2; omega⟩)) (fun K2 hK2 => kr K2 (⟨by have := hK2.1; have := hk10.1; omega, by have := hK2.2; have := hk10.2; omega⟩)) h)
        · replace h := sw_ifN hb17 h
          refine ga_ceqN (t := 192) qd187_187 e16 hb17 rfl ?_
          refine go_s qd187_190 rfl ?_
          exact ga_rb (u := ()) qd187_191 qr187 (by decide) (kr _ ⟨by have := hk10.1; omega, by have := hk10.2; omega⟩ _ (sw_sj h).symm)
      · replace h := sw_ifN hb5 h
        by_cases hb25 : ((sw_xs G l4) % 32) = 1
        · replace h := sw_ifY hb25 h
          refine ga_sw (t := 212) qd187_39 rfl hb25 rfl ?_
          refine go_l qd187_212 rfl ?_
          refine go_l qd187_213 rfl ?_
          refine go_l qd187_214 rfl ?_
          refine go_s qd187_216 rfl ?_
          refine ga_iadd qd187_217 ?_
          obtain ⟨_u, e26, h⟩ := sw_bind h
          refine ga_ldG qd187_218 hG.2.1 hG.1 e26 ?_
          refine go_l qd187_219 rfl ?_
          refine go_l qd187_220 rfl ?_
          refine go_s qd187_222 rfl ?_
          refine ga_iadd qd187_223 ?_
          obtain ⟨_u, e27, h⟩ := sw_bind h
          refine ga_ldG qd187_224 hG.2.1 hG.1 e27 ?_
          refine go_l qd187_225 rfl ?_
          obtain ⟨r29, e28, h⟩ := sw_bind h
          refine ga_kS (as := [.ref (z + 0), .int (Int32.ofInt (sw_xs G (l4 + 1))), .int (Int32.ofInt (sw_xs G (l4 + 2))), .ref (z + 228)]) (rest := []) qd187_226 qk187_85 rfl rfl (Nat.le_of_ble_eq_true rfl) (Nat.le_of_ble_eq_true rfl) rfl (A170 hn ho e28 (fun K30 hk31 => sw_bkv ?_))
          refine go_l (L' := [some (.ref G.1), some (.ref (z + 0)), some (.ref (z + 221)), some (.ref (z + 228)), some (.int (Int32.ofInt l4)), some (.int (Int32.ofInt r29.1)), none, none, none]) (st' := []) qd187_229 rfl ?_
          refine go_l qd187_231 rfl ?_
          refine go_l qd187_232 rfl ?_
          refine go_l qd187_233 rfl ?_
          refine go_s qd187_235 rfl ?_
          refine ga_iadd qd187_236 ?_
          obtain ⟨_u, e32, h⟩ := sw_bind h
          refine ga_ldG qd187_237 hG.2.1 hG.1 e32 ?_
          refine go_l qd187_238 rfl ?_
          refine go_l qd187_239 rfl ?_
          refine go_s qd187_241 rfl ?_
          refine ga_iadd qd187_242 ?_
          obtain ⟨_u, e33, h⟩ := sw_bind h
          refine ga_ldG qd187_243 hG.2.1 hG.1 e33 ?_
          obtain ⟨r35, e34, h⟩ := sw_bind h
          refine ga_kv (a := 221) (as := [.int (Int32.ofInt (sw_xs G (l4 + 1))), .int (Int32.ofInt (sw_xs G (l4 + 2)))]) (rest := []) qd187_244 qk187_88 (sw_sl hn (by decide)) rfl rfl rfl (Nat.le_of_ble_eq_true rfl) (Nat.le_of_ble_eq_true rfl) rfl (A126 hn e34 (sw_bkv ?_))
          refine go_l (L' := [some (.ref G.1), some (.ref (z + 0)), some (.ref (z + 221)), some (.ref (z + 228)), some (.int (Int32.ofInt l4)), some (.int (Int32.ofInt r29.1)), some (.int (Int32.ofInt r35.1)), none, none]) (st' := []) qd187_247 rfl ?_
          refine go_l qd187_249 rfl ?_
          obtain ⟨r37, e36, h⟩ := sw_bind h
          refine ga_kv (a := 221) (as := []) (rest := []) qd187_250 qk187_82 (sw_sl hn (by decide)) rfl rfl rfl (Nat.le_of_ble_eq_true rfl) (Nat.le_of_ble_eq_true rfl) rfl (A95 hn e36 (sw_bkv ?_))
          refine go_l qd187_253 rfl ?_
          obtain ⟨_u, e38, h⟩ := sw_bind h
          by_cases hb39 : r37 = r29.1
          · replace h := sw_ifY hb39 h
            refine ga_ceqY (t := 260) qd187_255 e38 hb39 rfl ?_
            refine go_l qd187_260 rfl ?_
            obtain ⟨_u, e40, h⟩ := sw_bind h
            by_cases hb41 : r29.1 = 0
            · replace h := sw_ifY hb41 h
              refine ga_zneY (t := 277) qd187_262 e40 hb41 rfl ?_
              refine go_l qd187_265 rfl ?_
              refine go_s qd187_266 rfl ?_
              obtain ⟨v43, e42, h⟩ := sw_bind h
              refine ga_lald qd187_267 ho e42 ?_
              refine go_l qd187_268 rfl ?_
              obtain ⟨_u, e44, h⟩ := sw_bind h
              refine ga_i2l qd187_270 e44 ?_
              by_cases hb46 : v43 = r35.1
              · replace h := sw_ifY hb46 h
                refine ga_lceY (t := 277) qd187_271 hb46 qd187_272 rfl ?_
                refine ga_jp (t := 1375) qd187_277 rfl ?_
                refine ga_ii (L' := [some (.ref G.1), some (.ref (z + 0)), some (.ref (z + 221)), some (.ref (z + 228)), some (.int (Int32.ofInt (l4 + 3))), some (.int (Int32.ofInt r29.1)), some (.int (Int32.ofInt r35.1)), none, none]) qd187_1375 rfl rfl ?_
                refine ga_jp (t := 23) qd187_1378 rfl ?_
                exact sq_weak (L := [some (.ref G.1), some (.ref (z + 0)), some (.ref (z + 221)), some (.ref (z + 228)), some (.int (Int32.ofInt (l4 + 3))), none, none, none, none]) ⟨rfl, rfl, rfl, rfl, rfl, trivial⟩ (ih r35.2 (l4 + 3) K30 (fun K2 hK2 => kk K2 (⟨by have := hK2.1; have := hk31.1; omega, by have := hK2.2; have := hk31.2; omega⟩)) (fun K2 hK2 => kr K2 (⟨by have := hK2.1; have := hk31.1; omega, by have := hK2.2; have := hk31.2; omega⟩)) h)
              · replace h := sw_ifN hb46 h
                obtain ⟨_u, e45, h⟩ := sw_bind h
                refine ga_lceN (t := 277) qd187_271 e45 hb46 qd187_272 rfl ?_
                refine go_s qd187_275 rfl ?_
                exact ga_rb (u := ()) qd187_276 qr187 (by decide) (kr _ ⟨by have := hk31.1; omega, by have := hk31.2; omega⟩ _ (sw_sj h).symm)
            · replace h := sw_ifN hb41 h
              refine ga_zneN (t := 277) qd187_262 e40 hb41 rfl ?_
              refine ga_jp (t := 1375) qd187_277 rfl ?_
              refine ga_ii (L' := [some (.ref G.1), some (.ref (z + 0)), some (.ref (z + 221)), some (.ref (z + 228)), some (.int (Int32.ofInt (l4 + 3))), some (.int (Int32.ofInt r29.1)), some (.int (Int32.ofInt r35.1)), none, none]) qd187_1375 rfl rfl ?_
              refine ga_jp (t := 23) qd187_1378 rfl ?_
              exact sq_weak (L := [some (.ref G.1), some (.ref (z + 0)), some (.ref (z + 221)), some (.ref (z + 228)), some (.int (Int32.ofInt (l4 + 3))), none, none, none, none]) ⟨rfl, rfl, rfl, rfl, rfl, trivial⟩ (ih r35.2 (l4 + 3) K30 (fun K2 hK2 => kk K2 (⟨by have := hK2.1; have := hk31.1; omega, by have := hK2.2; have := hk31.2; omega⟩)) (fun K2 hK2 => kr K2 (⟨by have := hK2.1; have := hk31.1; omega, by have := hK2.2; have := hk31.2; omega⟩)) h)
          · replace h := sw_ifN hb39 h
            refine ga_ceqN (t := 260) qd187_255 e38 hb39 rfl ?_
            refine go_s qd187_258 rfl ?_
            exact ga_rb (u := ()) qd187_259 qr187 (by decide) (kr _ ⟨by have := hk31.1; omega, by have := hk31.2; omega⟩ _ (sw_sj h).symm)
        · replace h := sw_ifN hb25 h
          by_cases hb47 : ((sw_xs G l4) % 32) = 2
          · replace h := sw_ifY hb47 h
            refine ga_sw (t := 280) qd187_39 rfl hb47 rfl ?_
            refine go_l qd187_280 rfl ?_
            refine go_l qd187_281 rfl ?_
            refine go_l qd187_282 rfl ?_
            refine go_s qd187_284 rfl ?_
            refine ga_iadd qd187_285 ?_
            obtain ⟨_u, e48, h⟩ := sw_bind h
            refine ga_ldG qd187_286 hG.2.1 hG.1 e48 ?_
            refine go_l qd187_287 rfl ?_
            refine go_l qd187_288 rfl ?_
            refine go_s qd187_290 rfl ?_
            refine ga_iadd qd187_291 ?_
            obtain ⟨_u, e49, h⟩ := sw_bind h
            refine ga_ldG qd187_292 hG.2.1 hG.1 e49 ?_
            refine go_l qd187_293 rfl ?_
            obtain ⟨r51, e50, h⟩ := sw_bind h
            refine ga_kS (as := [.ref (z + 0), .int (Int32.ofInt (sw_xs G (l4 + 1))), .int (Int32.ofInt (sw_xs G (l4 + 2))), .ref (z + 228)]) (rest := []) qd187_294 qk187_89 rfl rfl (Nat.le_of_ble_eq_true rfl) (Nat.le_of_ble_eq_true rfl) rfl (A171 hn ho e50 (fun K52 hk53 => sw_bkv ?_))
            refine go_l (L' := [some (.ref G.1), some (.ref (z + 0)), some (.ref (z + 221)), some (.ref (z + 228)), some (.int (Int32.ofInt l4)), some (.int (Int32.ofInt r51.1)), none, none, none]) (st' := []) qd187_297 rfl ?_
            refine go_l qd187_299 rfl ?_
            refine go_l qd187_300 rfl ?_
            refine go_l qd187_301 rfl ?_
            refine go_s qd187_303 rfl ?_
            refine ga_iadd qd187_304 ?_
            obtain ⟨_u, e54, h⟩ := sw_bind h
            refine ga_ldG qd187_305 hG.2.1 hG.1 e54 ?_
            refine go_l qd187_306 rfl ?_
            refine go_l qd187_307 rfl ?_
            refine go_s qd187_309 rfl ?_
            refine ga_iadd qd187_310 ?_
            obtain ⟨_u, e55, h⟩ := sw_bind h
            refine ga_ldG qd187_311 hG.2.1 hG.1 e55 ?_
            obtain ⟨r57, e56, h⟩ := sw_bind h
            refine ga_kv (a := 221) (as := [.int (Int32.ofInt (sw_xs G (l4 + 1))), .int (Int32.ofInt (sw_xs G (l4 + 2)))]) (rest := []) qd187_312 qk187_91 (sw_sl hn (by decide)) rfl rfl rfl (Nat.le_of_ble_eq_true rfl) (Nat.le_of_ble_eq_true rfl) rfl (A128 hn e56 (sw_bkv ?_))
            refine go_l (L' := [some (.ref G.1), some (.ref (z + 0)), some (.ref (z + 221)), some (.ref (z + 228)), some (.int (Int32.ofInt l4)), some (.int (Int32.ofInt r51.1)), some (.int (Int32.ofInt r57.1)), none, none]) (st' := []) qd187_315 rfl ?_
            refine go_l qd187_317 rfl ?_
            obtain ⟨r59, e58, h⟩ := sw_bind h
            refine ga_kv (a := 221) (as := []) (rest := []) qd187_318 qk187_82 (sw_sl hn (by decide)) rfl rfl rfl (Nat.le_of_ble_eq_true rfl) (Nat.le_of_ble_eq_true rfl) rfl (A95 hn e58 (sw_bkv ?_))
            refine go_l qd187_321 rfl ?_
            obtain ⟨_u, e60, h⟩ := sw_bind h
            by_cases hb61 : r59 = r51.1
            · replace h := sw_ifY hb61 h
              refine ga_ceqY (t := 328) qd187_323 e60 hb61 rfl ?_
              refine go_l qd187_328 rfl ?_
              obtain ⟨_u, e62, h⟩ := sw_bind h
              by_cases hb63 : r51.1 = 0
              · replace h := sw_ifY hb63 h
                refine ga_zneY (t := 345) qd187_330 e62 hb63 rfl ?_
                refine go_l qd187_333 rfl ?_
                refine go_s qd187_334 rfl ?_
                obtain ⟨v65, e64, h⟩ := sw_bind h
                refine ga_lald qd187_335 ho e64 ?_
                refine go_l qd187_336 rfl ?_
                obtain ⟨_u, e66, h⟩ := sw_bind h
                refine ga_i2l qd187_338 e66 ?_
                by_cases hb68 : v65 = r57.1
                · replace h := sw_ifY hb68 h
                  refine ga_lceY (t := 345) qd187_339 hb68 qd187_340 rfl ?_
                  refine ga_jp (t := 1375) qd187_345 rfl ?_
                  refine ga_ii (L' := [some (.ref G.1), some (.ref (z + 0)), some (.ref (z + 221)), some (.ref (z + 228)), some (.int (Int32.ofInt (l4 + 3))), some (.int (Int32.ofInt r51.1)), some (.int (Int32.ofInt r57.1)), none, none]) qd187_1375 rfl rfl ?_
                  refine ga_jp (t := 23) qd187_1378 rfl ?_
                  exact sq_weak (L := [some (.ref G.1), some (.ref (z + 0)), some (.ref (z + 221)), some (.ref (z + 228)), some (.int (Int32.ofInt (l4 + 3))), none, none, none, none]) ⟨rfl, rfl, rfl, rfl, rfl, trivial⟩ (ih r57.2 (l4 + 3) K52 (fun K2 hK2 => kk K2 (⟨by have := hK2.1; have := hk53.1; omega, by have := hK2.2; have := hk53.2; omega⟩)) (fun K2 hK2 => kr K2 (⟨by have := hK2.1; have := hk53.1; omega, by have := hK2.2; have := hk53.2; omega⟩)) h)
                · replace h := sw_ifN hb68 h
                  obtain ⟨_u, e67, h⟩ := sw_bind h
                  refine ga_lceN (t := 345) qd187_339 e67 hb68 qd187_340 rfl ?_
                  refine go_s qd187_343 rfl ?_
                  exact ga_rb (u := ()) qd187_344 qr187 (by decide) (kr _ ⟨by have := hk53.1; omega, by have := hk53.2; omega⟩ _ (sw_sj h).symm)
              · replace h := sw_ifN hb63 h
                refine ga_zneN (t := 345) qd187_330 e62 hb63 rfl ?_
                refine ga_jp (t := 1375) qd187_345 rfl ?_
                refine ga_ii (L' := [some (.ref G.1), some (.ref (z + 0)), some (.ref (z + 221)), some (.ref (z + 228)), some (.int (Int32.ofInt (l4 + 3))), some (.int (Int32.ofInt r51.1)), some (.int (Int32.ofInt r57.1)), none, none]) qd187_1375 rfl rfl ?_
                refine ga_jp (t := 23) qd187_1378 rfl ?_
                exact sq_weak (L := [some (.ref G.1), some (.ref (z + 0)), some (.ref (z + 221)), some (.ref (z + 228)), some (.int (Int32.ofInt (l4 + 3))), none, none, none, none]) ⟨rfl, rfl, rfl, rfl, rfl, trivial⟩ (ih r57.2 (l4 + 3) K52 (fun K2 hK2 => kk K2 (⟨by have := hK2.1; have := hk53.1; omega, by have := hK2.2; have := hk53.2; omega⟩)) (fun K2 hK2 => kr K2 (⟨by have := hK2.1; have := hk53.1; omega, by have := hK2.2; have := hk53.2; omega⟩)) h)
            · replace h := sw_ifN hb61 h
              refine ga_ceqN (t := 328) qd187_323 e60 hb61 rfl ?_
              refine go_s qd187_326 rfl ?_
              exact ga_rb (u := ()) qd187_327 qr187 (by decide) (kr _ ⟨by have := hk53.1; omega, by have := hk53.2; omega⟩ _ (sw_sj h).symm)
          · replace h := sw_ifN hb47 h
            by_cases hb69 : ((sw_xs G l4) % 32) = 3
            · replace h := sw_ifY hb69 h
              refine ga_sw (t := 348) qd187_39 rfl hb69 rfl ?_
              refine go_l qd187_348 rfl ?_
              refine go_l qd187_349 rfl ?_
              refine go_l qd187_350 rfl ?_
              refine go_s qd187_352 rfl ?_
              refine ga_iadd qd187_353 ?_
              obtain ⟨_u, e70, h⟩ := sw_bind h
              refine ga_ldG qd187_354 hG.2.1 hG.1 e70 ?_
              refine go_l qd187_355 rfl ?_
              obtain ⟨r72, e71, h⟩ := sw_bind h
              refine ga_kS (as := [.ref (z + 0), .int (Int32.ofInt (sw_xs G (l4 + 1))), .ref (z + 228)]) (rest := []) qd187_356 qk187_92 rfl rfl (Nat.le_of_ble_eq_true rfl) (Nat.le_of_ble_eq_true rfl) rfl (A172 hn ho e71 (fun K73 hk74 => sw_bkv ?_))
              refine go_l (L' := [some (.ref G.1), some (.ref (z + 0)), some (.ref (z + 221)), some (.ref (z + 228)), some (.int (Int32.ofInt l4)), some (.int (Int32.ofInt r72.1)), none, none, none]) (st' := []) qd187_359 rfl ?_
              refine go_l qd187_361 rfl ?_
              refine go_l qd187_362 rfl ?_
              refine go_l qd187_363 rfl ?_
              refine go_s qd187_365 rfl ?_
              refine ga_iadd qd187_366 ?_
              obtain ⟨_u, e75, h⟩ := sw_bind h
              refine ga_ldG qd187_367 hG.2.1 hG.1 e75 ?_
              obtain ⟨r77, e76, h⟩ := sw_bind h
              refine ga_kv (a := 221) (as := [.int (Int32.ofInt (sw_xs G (l4 + 1)))]) (rest := []) qd187_368 qk187_94 (sw_sl hn (by decide)) rfl rfl rfl (Nat.le_of_ble_eq_true rfl) (Nat.le_of_ble_eq_true rfl) rfl (A130 hn e76 (sw_bkv ?_))
              refine go_l (L' := [some (.ref G.1), some (.ref (z + 0)), some (.ref (z + 221)), some (.ref (z + 228)), some (.int (Int32.ofInt l4)), some (.int (Int32.ofInt r72.1)), some (.int (Int32.ofInt r77.1)), none, none]) (st' := []) qd187_371 rfl ?_
              refine go_l qd187_373 rfl ?_
              obtain ⟨r79, e78, h⟩ := sw_bind h
              refine ga_kv (a := 221) (as := []) (rest := []) qd187_374 qk187_82 (sw_sl hn (by decide)) rfl rfl rfl (Nat.le_of_ble_eq_true rfl) (Nat.le_of_ble_eq_true rfl) rfl (A95 hn e78 (sw_bkv ?_))
              refine go_l qd187_377 rfl ?_
              obtain ⟨_u, e80, h⟩ := sw_bind h
              by_cases hb81 : r79 = r72.1
              · replace h := sw_ifY hb81 h
                refine ga_ceqY (t := 384) qd187_379 e80 hb81 rfl ?_
                refine go_l qd187_384 rfl ?_
                obtain ⟨_u, e82, h⟩ := sw_bind h
                by_cases hb83 : r72.1 = 0
                · replace h := sw_ifY hb83 h
                  refine ga_zneY (t := 401) qd187_386 e82 hb83 rfl ?_
                  refine go_l qd187_389 rfl ?_
                  refine go_s qd187_390 rfl ?_
                  obtain ⟨v85, e84, h⟩ := sw_bind h
                  refine ga_lald qd187_391 ho e84 ?_
                  refine go_l qd187_392 rfl ?_
                  obtain ⟨_u, e86, h⟩ := sw_bind h
                  refine ga_i2l qd187_394 e86 ?_
                  by_cases hb88 : v85 = r77.1
                  · replace h := sw_ifY hb88 h
                    refine ga_lceY (t := 401) qd187_395 hb88 qd187_396 rfl ?_
                    refine ga_jp (t := 1375) qd187_401 rfl ?_
                    refine ga_ii (L' := [some (.ref G.1), some (.ref (z + 0)), some (.ref (z + 221)), some (.ref (z + 228)), some (.int (Int32.ofInt (l4 + 3))), some (.int (Int32.ofInt r72.1)), some (.int (Int32.ofInt r77.1)), none, none]) qd187_1375 rfl rfl ?_
                    refine ga_jp (t := 23) qd187_1378 rfl ?_
                    exact sq_weak (L := [some (.ref G.1), some (.ref (z + 0)), some (.ref (z + 221)), some (.ref (z + 228)), some (.int (Int32.ofInt (l4 + 3))), none, none, none, none]) ⟨rfl, rfl, rfl, rfl, rfl, trivial⟩ (ih r77.2 (l4 + 3) K73 (fun K2 hK2 => kk K2 (⟨by have := hK2.1; have := hk74.1; omega, by have := hK2.2; have := hk74.2; omega⟩)) (fun K2 hK2 => kr K2 (⟨by have := hK2.1; have := hk74.1; omega, by have := hK2.2; have := hk74.2; omega⟩)) h)
                  · replace h := sw_ifN hb88 h
                    obtain ⟨_u, e87, h⟩ := sw_bind h
                    refine ga_lceN (t := 401) qd187_395 e87 hb88 qd187_396 rfl ?_
                    refine go_s qd187_399 rfl ?_
                    exact ga_rb (u := ()) qd187_400 qr187 (by decide) (kr _ ⟨by have := hk74.1; omega, by have := hk74.2; omega⟩ _ (sw_sj h).symm)
                · replace h := sw_ifN hb83 h
                  refine ga_zneN (t := 401) qd187_386 e82 hb83 rfl ?_
                  refine ga_jp (t := 1375) qd187_401 rfl ?_
                  refine ga_ii (L' := [some (.ref G.1), some (.ref (z + 0)), some (.ref (z + 221)), some (.ref (z + 228)), some (.int (Int32.ofInt (l4 + 3))), some (.int (Int32.ofInt r72.1)), some (.int (Int32.ofInt r77.1)), none, none]) qd187_1375 rfl rfl ?_
                  refine ga_jp (t := 23) qd187_1378 rfl ?_
                  exact sq_weak (L := [some (.ref G.1), some (.ref (z + 0)), some (.ref (z + 221)), some (.ref (z + 228)), some (.int (Int32.ofInt (l4 + 3))), none, none, none, none]) ⟨rfl, rfl, rfl, rfl, rfl, trivial⟩ (ih r77.2 (l4 + 3) K73 (fun K2 hK2 => kk K2 (⟨by have := hK2.1; have := hk74.1; omega, by have := hK2.2; have := hk74.2; omega⟩)) (fun K2 hK2 => kr K2 (⟨by have := hK2.1; have := hk74.1; omega, by have := hK2.2; have := hk74.2; omega⟩)) h)
              · replace h := sw_ifN hb81 h
                refine ga_ceqN (t := 384) qd187_379 e80 hb81 rfl ?_
                refine go_s qd187_382 rfl ?_
                exact ga_rb (u := ()) qd187_383 qr187 (by decide) (kr _ ⟨by have := hk74.1; omega, by have := hk74.2; omega⟩ _ (sw_sj h).symm)
            · replace h := sw_ifN hb69 h
              by_cases hb89 : ((sw_xs G l4) % 32) = 4
              · replace h := sw_ifY hb89 h
                refine ga_sw (t := 404) qd187_39 rfl hb89 rfl ?_
                refine go_l qd187_404 rfl ?_
                refine go_l qd187_405 rfl ?_
                refine go_l qd187_406 rfl ?_
                refine go_s qd187_408 rfl ?_
                refine ga_iadd qd187_409 ?_
                obtain ⟨_u, e90, h⟩ := sw_bind h
                refine ga_ldG qd187_410 hG.2.1 hG.1 e90 ?_
                refine go_l qd187_411 rfl ?_
                obtain ⟨r92, e91, h⟩ := sw_bind h
                refine ga_kS (as := [.ref (z + 0), .int (Int32.ofInt (sw_xs G (l4 + 1))), .ref (z + 228)]) (rest := []) qd187_412 qk187_95 rfl rfl (Nat.le_of_ble_eq_true rfl) (Nat.le_of_ble_eq_true rfl) rfl (A173 hn ho e91 (fun K93 hk94 => sw_bkv ?_))
                refine go_l (L' := [some (.ref G.1), some (.ref (z + 0)), some (.ref (z + 221)), some (.ref (z + 228)), some (.int (Int32.ofInt l4)), some (.int (Int32.ofInt r92.1)), none, none, none]) (st' := []) qd187_415 rfl ?_
                refine go_l qd187_417 rfl ?_
                refine go_l qd187_418 rfl ?_
                refine go_l qd187_419 rfl ?_
                refine go_s qd187_421 rfl ?_
                refine ga_iadd qd187_422 ?_
                obtain ⟨_u, e95, h⟩ := sw_bind h
                refine ga_ldG qd187_423 hG.2.1 hG.1 e95 ?_
                obtain ⟨r97, e96, h⟩ := sw_bind h
                refine ga_kv (a := 221) (as := [.int (Int32.ofInt (sw_xs G (l4 + 1)))]) (rest := []) qd187_424 qk187_97 (sw_sl hn (by decide)) rfl rfl rfl (Nat.le_of_ble_eq_true rfl) (Nat.le_of_ble_eq_true rfl) rfl (A131 hn e96 (sw_bkv ?_))
                refine go_l (L' := [some (.ref G.1), some (.ref (z + 0)), some (.ref (z + 221)), some (.ref (z + 228)), some (.int (Int32.ofInt l4)), some (.int (Int32.ofInt r92.1)), some (.int (Int32.ofInt r97.1)), none, none]) (st' := []) qd187_427 rfl ?_
                refine go_l qd187_429 rfl ?_
                obtain ⟨r99, e98, h⟩ := sw_bind h
                refine ga_kv (a := 221) (as := []) (rest := []) qd187_430 qk187_82 (sw_sl hn (by decide)) rfl rfl rfl (Nat.le_of_ble_eq_true rfl) (Nat.le_of_ble_eq_true rfl) rfl (A95 hn e98 (sw_bkv ?_))
                refine go_l qd187_433 rfl ?_
                obtain ⟨_u, e100, h⟩ := sw_bind h
                by_cases hb101 : r99 = r92.1
                · replace h := sw_ifY hb101 h
                  refine ga_ceqY (t := 440) qd187_435 e100 hb101 rfl ?_
                  refine go_l qd187_440 rfl ?_
                  obtain ⟨_u, e102, h⟩ := sw_bind h
                  by_cases hb103 : r92.1 = 0
                  · replace h := sw_ifY hb103 h
                    refine ga_zneY (t := 457) qd187_442 e102 hb103 rfl ?_
                    refine go_l qd187_445 rfl ?_
                    refine go_s qd187_446 rfl ?_
                    obtain ⟨v105, e104, h⟩ := sw_bind h
                    refine ga_lald qd187_447 ho e104 ?_
                    refine go_l qd187_448 rfl ?_
                    obtain ⟨_u, e106, h⟩ := sw_bind h
                    refine ga_i2l qd187_450 e106 ?_
                    by_cases hb108 : v105 = r97.1
                    · replace h := sw_ifY hb108 h
                      refine ga_lceY (t := 457) qd187_451 hb108 qd187_452 rfl ?_
                      refine ga_jp (t := 1375) qd187_457 rfl ?_
                      refine ga_ii (L' := [some (.ref G.1), some (.ref (z + 0)), some (.ref (z + 221)), some (.ref (z + 228)), some (.int (Int32.ofInt (l4 + 3))), some (.int (Int32.ofInt r92.1)), some (.int (Int32.ofInt r97.1)), none, none]) qd187_1375 rfl rfl ?_
                      refine ga_jp (t := 23) qd187_1378 rfl ?_
                      exact sq_weak (L := [some (.ref G.1), some (.ref (z + 0)), some (.ref (z + 221)), some (.ref (z + 228)), some (.int (Int32.ofInt (l4 + 3))), none, none, none, none]) ⟨rfl, rfl, rfl, rfl, rfl, trivial⟩ (ih r97.2 (l4 + 3) K93 (fun K2 hK2 => kk K2 (⟨by have := hK2.1; have := hk94.1; omega, by have := hK2.2; have := hk94.2; omega⟩)) (fun K2 hK2 => kr K2 (⟨by have := hK2.1; have := hk94.1; omega, by have := hK2.2; have := hk94.2; omega⟩)) h)
                    · replace h := sw_ifN hb108 h
                      obtain ⟨_u, e107, h⟩ := sw_bind h
                      refine ga_lceN (t := 457) qd187_451 e107 hb108 qd187_452 rfl ?_
                      refine go_s qd187_455 rfl ?_
                      exact ga_rb (u := ()) qd187_456 qr187 (by decide) (kr _ ⟨by have := hk94.1; omega, by have := hk94.2; omega⟩ _ (sw_sj h).symm)
                  · replace h := sw_ifN hb103 h
                    refine ga_zneN (t := 457) qd187_442 e102 hb103 rfl ?_
                    refine ga_jp (t := 1375) qd187_457 rfl ?_
                    refine ga_ii (L' := [some (.ref G.1), some (.ref (z + 0)), some (.ref (z + 221)), some (.ref (z + 228)), some (.int (Int32.ofInt (l4 + 3))), some (.int (Int32.ofInt r92.1)), some (.int (Int32.ofInt r97.1)), none, none]) qd187_1375 rfl rfl ?_
                    refine ga_jp (t := 23) qd187_1378 rfl ?_
                    exact sq_weak (L := [some (.ref G.1), some (.ref (z + 0)), some (.ref (z + 221)), some (.ref (z + 228)), some (.int (Int32.ofInt (l4 + 3))), none, none, none, none]) ⟨rfl, rfl, rfl, rfl, rfl, trivial⟩ (ih r97.2 (l4 + 3) K93 (fun K2 hK2 => kk K2 (⟨by have := hK2.1; have := hk94.1; omega, by have := hK2.2; have := hk94.2; omega⟩)) (fun K2 hK2 => kr K2 (⟨by have := hK2.1; have := hk94.1; omega, by have := hK2.2; have := hk94.2; omega⟩)) h)
                · replace h := sw_ifN hb101 h
                  refine ga_ceqN (t := 440) qd187_435 e100 hb101 rfl ?_
                  refine go_s qd187_438 rfl ?_
                  exact ga_rb (u := ()) qd187_439 qr187 (by decide) (kr _ ⟨by have := hk94.1; omega, by have := hk94.2; omega⟩ _ (sw_sj h).symm)
              · replace h := sw_ifN hb89 h
                by_cases hb109 : ((sw_xs G l4) % 32) = 5
                · replace h := sw_ifY hb109 h
                  refine ga_sw (t := 460) qd187_39 rfl hb109 rfl ?_
                  refine go_l qd187_460 rfl ?_
                  refine go_l qd187_461 rfl ?_
                  refine go_l qd187_462 rfl ?_
                  refine go_s qd187_464 rfl ?_
                  refine ga_iadd qd187_465 ?_
                  obtain ⟨_u, e110, h⟩ := sw_bind h
                  refine ga_ldG qd187_466 hG.2.1 hG.1 e110 ?_
                  refine go_l qd187_467 rfl ?_
                  refine go_l qd187_468 rfl ?_
                  refine go_s qd187_470 rfl ?_
                  refine ga_iadd qd187_471 ?_
                  obtain ⟨_u, e111, h⟩ := sw_bind h
                  refine ga_ldG qd187_472 hG.2.1 hG.1 e111 ?_
                  refine go_l qd187_473 rfl ?_
                  obtain ⟨r113, e112, h⟩ := sw_bind h
                  refine ga_kS (as := [.ref (z + 0), .int (Int32.ofInt (sw_xs G (l4 + 1))), .int (Int32.ofInt (sw_xs G (l4 + 2))), .ref (z + 228)]) (rest := []) qd187_474 qk187_98 rfl rfl (Nat.le_of_ble_eq_true rfl) (Nat.le_of_ble_eq_true rfl) rfl (A174 hn hG ho e112 (fun K114 hk115 => sw_bkv ?_))
                  refine go_l (L' := [some (.ref G.1), some (.ref (z + 0)), some (.ref (z + 221)), some (.ref (z + 228)), some (.int (Int32.ofInt l4)), some (.int (Int32.ofInt r113.1)), none, none, none]) (st' := []) qd187_477 rfl ?_
                  refine go_l qd187_479 rfl ?_
                  refine go_l qd187_480 rfl ?_
                  refine go_l qd187_481 rfl ?_
                  refine go_s qd187_483 rfl ?_
                  refine ga_iadd qd187_484 ?_
                  obtain ⟨_u, e116, h⟩ := sw_bind h
                  refine ga_ldG qd187_485 hG.2.1 hG.1 e116 ?_
                  refine go_l qd187_486 rfl ?_
                  refine go_l qd187_487 rfl ?_
                  refine go_s qd187_489 rfl ?_
                  refine ga_iadd qd187_490 ?_
                  obtain ⟨_u, e117, h⟩ := sw_bind h
                  refine ga_ldG qd187_491 hG.2.1 hG.1 e117 ?_
                  obtain ⟨r119, e118, h⟩ := sw_bind h
                  refine ga_kv (a := 221) (as := [.int (Int32.ofInt (sw_xs G (l4 + 1))), .int (Int32.ofInt (sw_xs G (l4 + 2)))]) (rest := []) qd187_492 qk187_100 (sw_sl hn (by decide)) rfl rfl rfl (Nat.le_of_ble_eq_true rfl) (Nat.le_of_ble_eq_true rfl) rfl (A132 hn e118 (sw_bkv ?_))
                  refine go_l (L' := [some (.ref G.1), some (.ref (z + 0)), some (.ref (z + 221)), some (.ref (z + 228)), some (.int (Int32.ofInt l4)), some (.int (Int32.ofInt r113.1)), some (.int (Int32.ofInt r119.1)), none, none]) (st' := []) qd187_495 rfl ?_
                  refine go_l qd187_497 rfl ?_
                  obtain ⟨r121, e120, h⟩ := sw_bind h
                  refine ga_kv (a := 221) (as := []) (rest := []) qd187_498 qk187_82 (sw_sl hn (by decide)) rfl rfl rfl (Nat.le_of_ble_eq_true rfl) (Nat.le_of_ble_eq_true rfl) rfl (A95 hn e120 (sw_bkv ?_))
                  refine go_l qd187_501 rfl ?_
                  obtain ⟨_u, e122, h⟩ := sw_bind h
                  by_cases hb123 : r121 = r113.1
                  · replace h := sw_ifY hb123 h
                    refine ga_ceqY (t := 508) qd187_503 e122 hb123 rfl ?_
                    refine go_l qd187_508 rfl ?_
                    obtain ⟨_u, e124, h⟩ := sw_bind h
                    by_cases hb125 : r113.1 = 0
                    · replace h := sw_ifY hb125 h
                      refine ga_zneY (t := 525) qd187_510 e124 hb125 rfl ?_
                      refine go_l qd187_513 rfl ?_
                      refine go_s qd187_514 rfl ?_
                      obtain ⟨v127, e126, h⟩ := sw_bind h
                      refine ga_lald qd187_515 ho e126 ?_
                      refine go_l qd187_516 rfl ?_
                      obtain ⟨_u, e128, h⟩ := sw_bind h
                      refine ga_i2l qd187_518 e128 ?_
                      by_cases hb130 : v127 = r119.1
                      · replace h := sw_ifY hb130 h
                        refine ga_lceY (t := 525) qd187_519 hb130 qd187_520 rfl ?_
                        refine ga_jp (t := 1375) qd187_525 rfl ?_
                        refine ga_ii (L' := [some (.ref G.1), some (.ref (z + 0)), some (.ref (z + 221)), some (.ref (z + 228)), some (.int (Int32.ofInt (l4 + 3))), some (.int (Int32.ofInt r113.1)), some (.int (Int32.ofInt r119.1)), none, none]) qd187_1375 rfl rfl ?_
                        refine ga_jp (t := 23) qd187_1378 rfl ?_
                        exact sq_weak (L := [some (.ref G.1), some (.ref (z + 0)), some (.ref (z + 221)), some (.ref (z + 228)), some (.int (Int32.ofInt (l4 + 3))), none, none, none, none]) ⟨rfl, rfl, rfl, rfl, rfl, trivial⟩ (ih r119.2 (l4 + 3) K114 (fun K2 hK2 => kk K2 (⟨by have := hK2.1; have := hk115.1; omega, by have := hK2.2; have := hk115.2; omega⟩)) (fun K2 hK2 => kr K2 (⟨by have := hK2.1; have := hk115.1; omega, by have := hK2.2; have := hk115.2; omega⟩)) h)
                      · replace h := sw_ifN hb130 h
                        obtain ⟨_u, e129, h⟩ := sw_bind h
                        refine ga_lceN (t := 525) qd187_519 e129 hb130 qd187_520 rfl ?_
                        refine go_s qd187_523 rfl ?_
                        exact ga_rb (u := ()) qd187_524 qr187 (by decide) (kr _ ⟨by have := hk115.1; omega, by have := hk115.2; omega⟩ _ (sw_sj h).symm)
                    · replace h := sw_ifN hb125 h
                      refine ga_zneN (t := 525) qd187_510 e124 hb125 rfl ?_
                      refine ga_jp (t := 1375) qd187_525 rfl ?_
                      refine ga_ii (L' := [some (.ref G.1), some (.ref (z + 0)), some (.ref (z + 221)), some (.ref (z + 228)), some (.int (Int32.ofInt (l4 + 3))), some (.int (Int32.ofInt r113.1)), some (.int (Int32.ofInt r119.1)), none, none]) qd187_1375 rfl rfl ?_
                      refine ga_jp (t := 23) qd187_1378 rfl ?_
                      exact sq_weak (L := [some (.ref G.1), some (.ref (z + 0)), some (.ref (z + 221)), some (.ref (z + 228)), some (.int (Int32.ofInt (l4 + 3))), none, none, none, none]) ⟨rfl, rfl, rfl, rfl, rfl, trivial⟩ (ih r119.2 (l4 + 3) K114 (fun K2 hK2 => kk K2 (⟨by have := hK2.1; have := hk115.1; omega, by have := hK2.2; have := hk115.2; omega⟩)) (fun K2 hK2 => kr K2 (⟨by have := hK2.1; have := hk115.1; omega, by have := hK2.2; have := hk115.2; omega⟩)) h)
                  · replace h := sw_ifN hb123 h
                    refine ga_ceqN (t := 508) qd187_503 e122 hb123 rfl ?_
                    refine go_s qd187_506 rfl ?_
                    exact ga_rb (u := ()) qd187_507 qr187 (by decide) (kr _ ⟨by have := hk115.1; omega, by have := hk115.2; omega⟩ _ (sw_sj h).symm)
                · replace h := sw_ifN hb109 h
                  by_cases hb131 : ((sw_xs G l4) % 32) = 6
                  · replace h := sw_ifY hb131 h
                    refine ga_sw (t := 528) qd187_39 rfl hb131 rfl ?_
                    refine go_l qd187_528 rfl ?_
                    refine go_l qd187_529 rfl ?_
                    refine go_l qd187_530 rfl ?_
                    refine go_s qd187_532 rfl ?_
                    refine ga_iadd qd187_533 ?_
                    obtain ⟨_u, e132, h⟩ := sw_bind h
                    refine ga_ldG qd187_534 hG.2.1 hG.1 e132 ?_
                    refine go_l qd187_535 rfl ?_
                    obtain ⟨r134, e133, h⟩ := sw_bind h
                    refine ga_kS (as := [.ref (z + 0), .int (Int32.ofInt (sw_xs G (l4 + 1))), .ref (z + 228)]) (rest := []) qd187_536 qk187_101 rfl rfl (Nat.le_of_ble_eq_true rfl) (Nat.le_of_ble_eq_true rfl) rfl (A175 hn ho e133 (fun K135 hk136 => sw_bkv ?_))
                    refine go_l (L' := [some (.ref G.1), some (.ref (z + 0)), some (.ref (z + 221)), some (.ref (z + 228)), some (.int (Int32.ofInt l4)), some (.int (Int32.ofInt r134.1)), none, none, none]) (st' := []) qd187_539 rfl ?_
                    refine go_l qd187_541 rfl ?_
                    refine go_l qd187_542 rfl ?_
                    refine go_l qd187_543 rfl ?_
                    refine go_s qd187_545 rfl ?_
                    refine ga_iadd qd187_546 ?_
                    obtain ⟨_u, e137, h⟩ := sw_bind h
                    refine ga_ldG qd187_547 hG.2.1 hG.1 e137 ?_
                    obtain ⟨r139, e138, h⟩ := sw_bind h
                    refine ga_kv (a := 221) (as := [.int (Int32.ofInt (sw_xs G (l4 + 1)))]) (rest := []) qd187_548 qk187_103 (sw_sl hn (by decide)) rfl rfl rfl (Nat.le_of_ble_eq_true rfl) (Nat.le_of_ble_eq_true rfl) rfl (A133 hn e138 (sw_bkv ?_))
                    refine go_l (L' := [some (.ref G.1), some (.ref (z + 0)), some (.ref (z + 221)), some (.ref (z + 228)), some (.int (Int32.ofInt l4)), some (.int (Int32.ofInt r134.1)), some (.int (Int32.ofInt r139.1)), none, none]) (st' := []) qd187_551 rfl ?_
                    refine go_l qd187_553 rfl ?_
                    obtain ⟨r141, e140, h⟩ := sw_bind h
                    refine ga_kv (a := 221) (as := []) (rest := []) qd187_554 qk187_82 (sw_sl hn (by decide)) rfl rfl rfl (Nat.le_of_ble_eq_true rfl) (Nat.le_of_ble_eq_true rfl) rfl (A95 hn e140 (sw_bkv ?_))
                    refine go_l qd187_557 rfl ?_
                    obtain ⟨_u, e142, h⟩ := sw_bind h
                    by_cases hb143 : r141 = r134.1
                    · replace h := sw_ifY hb143 h
                      refine ga_ceqY (t := 564) qd187_559 e142 hb143 rfl ?_
                      refine go_l qd187_564 rfl ?_
                      obtain ⟨_u, e144, h⟩ := sw_bind h
                      by_cases hb145 : r134.1 = 0
                      · replace h := sw_ifY hb145 h
                        refine ga_zneY (t := 581) qd187_566 e144 hb145 rfl ?_
                        refine go_l qd187_569 rfl ?_
                        refine go_s qd187_570 rfl ?_
                        obtain ⟨v147, e146, h⟩ := sw_bind h
                        refine ga_lald qd187_571 ho e146 ?_
                        refine go_l qd187_572 rfl ?_
                        obtain ⟨_u, e148, h⟩ := sw_bind h
                        refine ga_i2l qd187_574 e148 ?_
                        by_cases hb150 : v147 = r139.1
                        · replace h := sw_ifY hb150 h
                          refine ga_lceY (t := 581) qd187_575 hb150 qd187_576 rfl ?_
                          refine ga_jp (t := 1375) qd187_581 rfl ?_
                          refine ga_ii (L' := [some (.ref G.1), some (.ref (z + 0)), some (.ref (z + 221)), some (.ref (z + 228)), some (.int (Int32.ofInt (l4 + 3))), some (.int (Int32.ofInt r134.1)), some (.int (Int32.ofInt r139.1)), none, none]) qd187_1375 rfl rfl ?_
                          refine ga_jp (t := 23) qd187_1378 rfl ?_
                          exact sq_weak (L := [some (.ref G.1), some (.ref (z + 0)), some (.ref (z + 221)), some (.ref (z + 228)), some (.int (Int32.ofInt (l4 + 3))), none, none, none, none]) ⟨rfl, rfl, rfl, rfl, rfl, trivial⟩ (ih r139.2 (l4 + 3) K135 (fun K2 hK2 => kk K2 (⟨by have := hK2.1; have := hk136.1; omega, by have := hK2.2; have := hk136.2; omega⟩)) (fun K2 hK2 => kr K2 (⟨by have := hK2.1; have := hk136.1; omega, by have := hK2.2; have := hk136.2; omega⟩)) h)
                        · replace h := sw_ifN hb150 h
                          obtain ⟨_u, e149, h⟩ := sw_bind h
                          refine ga_lceN (t := 581) qd187_575 e149 hb150 qd187_576 rfl ?_
                          refine go_s qd187_579 rfl ?_
                          exact ga_rb (u := ()) qd187_580 qr187 (by decide) (kr _ ⟨by have := hk136.1; omega, by have := hk136.2; omega⟩ _ (sw_sj h).symm)
                      · replace h := sw_ifN hb145 h
                        refine ga_zneN (t := 581) qd187_566 e144 hb145 rfl ?_
                        refine ga_jp (t := 1375) qd187_581 rfl ?_
                        refine ga_ii (L' := [some (.ref G.1), some (.ref (z + 0)), some (.ref (z + 221)), some (.ref (z + 228)), some (.int (Int32.ofInt (l4 + 3))), some (.int (Int32.ofInt r134.1)), some (.int (Int32.ofInt r139.1)), none, none]) qd187_1375 rfl rfl ?_
                        refine ga_jp (t := 23) qd187_1378 rfl ?_
                        exact sq_weak (L := [some (.ref G.1), some (.ref (z + 0)), some (.ref (z + 221)), some (.ref (z + 228)), some (.int (Int32.ofInt (l4 + 3))), none, none, none, none]) ⟨rfl, rfl, rfl, rfl, rfl, trivial⟩ (ih r139.2 (l4 + 3) K135 (fun K2 hK2 => kk K2 (⟨by have := hK2.1; have := hk136.1; omega, by have := hK2.2; have := hk136.2; omega⟩)) (fun K2 hK2 => kr K2 (⟨by have := hK2.1; have := hk136.1; omega, by have := hK2.2; have := hk136.2; omega⟩)) h)
                    · replace h := sw_ifN hb143 h
                      refine ga_ceqN (t := 564) qd187_559 e142 hb143 rfl ?_
                      refine go_s qd187_562 rfl ?_
                      exact ga_rb (u := ()) qd187_563 qr187 (by decide) (kr _ ⟨by have := hk136.1; omega, by have := hk136.2; omega⟩ _ (sw_sj h).symm)
                  · replace h := sw_ifN hb131 h
                    by_cases hb151 : ((sw_xs G l4) % 32) = 7
                    · replace h := sw_ifY hb151 h
                      refine ga_sw (t := 584) qd187_39 rfl hb151 rfl ?_
                      refine go_l qd187_584 rfl ?_
                      obtain ⟨r153, e152, h⟩ := sw_bind h
                      refine ga_kv (a := 0) (as := []) (rest := []) qd187_585 qk187_104 (sw_sl hn (by decide)) rfl rfl rfl (Nat.le_of_ble_eq_true rfl) (Nat.le_of_ble_eq_true rfl) rfl (A66 hn e152 (sw_bkv ?_))
                      refine go_l qd187_588 rfl ?_
                      obtain ⟨r155, e154, h⟩ := sw_bind h
                      refine ga_kv (a := 221) (as := []) (rest := [.int (Int32.ofInt r153.1)]) qd187_589 qk187_107 (sw_sl hn (by decide)) rfl rfl rfl (Nat.le_of_ble_eq_true rfl) (Nat.le_of_ble_eq_true rfl) rfl (A134 hn e154 (sw_bkv ?_))
                      obtain ⟨_u, e156, h⟩ := sw_bind h
                      by_cases hb157 : r153.1 = r155.1
                      · replace h := sw_ifY hb157 h
                        refine ga_ceqY (t := 1375) qd187_592 e156 hb157 rfl ?_
                        refine ga_ii (L' := [some (.ref G.1), some (.ref (z + 0)), some (.ref (z + 221)), some (.ref (z + 228)), some (.int (Int32.ofInt (l4 + 3))), none, none, none, none]) qd187_1375 rfl rfl ?_
                        refine ga_jp (t := 23) qd187_1378 rfl ?_
                        exact sq_weak (L := [some (.ref G.1), some (.ref (z + 0)), some (.ref (z + 221)), some (.ref (z + 228)), some (.int (Int32.ofInt (l4 + 3))), none, none, none, none]) ⟨rfl, rfl, rfl, rfl, rfl, trivial⟩ (ih r155.2 (l4 + 3) K (fun K2 hK2 => kk K2 (⟨by have := hK2.1; omega, by have := hK2.2; omega⟩)) (fun K2 hK2 => kr K2 (⟨by have := hK2.1; omega, by have := hK2.2; omega⟩)) h)
                      · replace h := sw_ifN hb157 h
                        refine ga_ceqN (t := 1375) qd187_592 e156 hb157 rfl ?_
                        refine go_s qd187_595 rfl ?_
                        exact ga_rb (u := ()) qd187_596 qr187 (by decide) (kr _ ⟨by omega, by omega⟩ _ (sw_sj h).symm)
                    · replace h := sw_ifN hb151 h
                      by_cases hb158 : ((sw_xs G l4) % 32) = 8
                      · replace h := sw_ifY hb158 h
                        refine ga_sw (t := 597) qd187_39 rfl hb158 rfl ?_
                        refine go_l qd187_597 rfl ?_
                        obtain ⟨r160, e159, h⟩ := sw_bind h
                        refine ga_kv (a := 0) (as := []) (rest := []) qd187_598 qk187_108 (sw_sl hn (by decide)) rfl rfl rfl (Nat.le_of_ble_eq_true rfl) (Nat.le_of_ble_eq_true rfl) rfl (A67 hn e159 (sw_bkv ?_))
                        refine go_l qd187_601 rfl ?_
                        obtain ⟨r162, e161, h⟩ := sw_bind h
                        refine ga_kv (a := 221) (as := []) (rest := [.int (Int32.ofInt r160)]) qd187_602 qk187_111 (sw_sl hn (by decide)) rfl rfl rfl (Nat.le_of_ble_eq_true rfl) (Nat.le_of_ble_eq_true rfl) rfl (A140 hn e161 (sw_bkv ?_))
                        obtain ⟨_u, e163, h⟩ := sw_bind h
                        by_cases hb164 : r160 = r162.1
                        · replace h := sw_ifY hb164 h
                          refine ga_ceqY (t := 1375) qd187_605 e163 hb164 rfl ?_
                          refine ga_ii (L' := [some (.ref G.1), some (.ref (z + 0)), some (.ref (z + 221)), some (.ref (z + 228)), some (.int (Int32.ofInt (l4 + 3))), none, none, none, none]) qd187_1375 rfl rfl ?_
                          refine ga_jp (t := 23) qd187_1378 rfl ?_
                          exact sq_weak (L := [some (.ref G.1), some (.ref (z + 0)), some (.ref (z + 221)), some (.ref (z + 228)), some (.int (Int32.ofInt (l4 + 3))), none, none, none, none]) ⟨rfl, rfl, rfl, rfl, rfl, trivial⟩ (ih r162.2 (l4 + 3) K (fun K2 hK2 => kk K2 (⟨by have := hK2.1; omega, by have := hK2.2; omega⟩)) (fun K2 hK2 => kr K2 (⟨by have := hK2.1; omega, by have := hK2.2; omega⟩)) h)
                        · replace h := sw_ifN hb164 h
                          refine ga_ceqN (t := 1375) qd187_605 e163 hb164 rfl ?_
                          refine go_s qd187_608 rfl ?_
                          exact ga_rb (u := ()) qd187_609 qr187 (by decide) (kr _ ⟨by omega, by omega⟩ _ (sw_sj h).symm)
                      · replace h := sw_ifN hb158 h
                        by_cases hb165 : ((sw_xs G l4) % 32) = 9
                        · replace h := sw_ifY hb165 h
                          refine ga_sw (t := 610) qd187_39 rfl hb165 rfl ?_
                          refine go_l qd187_610 rfl ?_
                          refine go_l qd187_611 rfl ?_
                          obtain ⟨r167, e166, h⟩ := sw_bind h
                          refine ga_kS (as := [.ref (z + 0), .ref (z + 228)]) (rest := []) qd187_612 qk187_112 rfl rfl (Nat.le_of_ble_eq_true rfl) (Nat.le_of_ble_eq_true rfl) rfl (A176 hn ho e166 (fun K168 hk169 => sw_bkv ?_))
                          refine go_l (L' := [some (.ref G.1), some (.ref (z + 0)), some (.ref (z + 221)), some (.ref (z + 228)), some (.int (Int32.ofInt l4)), some (.int (Int32.ofInt r167.1)), none, none, none]) (st' := []) qd187_615 rfl ?_
                          refine go_l qd187_617 rfl ?_
                          obtain ⟨r171, e170, h⟩ := sw_bind h
                          refine ga_kv (a := 221) (as := []) (rest := []) qd187_618 qk187_115 (sw_sl hn (by decide)) rfl rfl rfl (Nat.le_of_ble_eq_true rfl) (Nat.le_of_ble_eq_true rfl) rfl (A142 hn e170 (sw_bkv ?_))
                          refine go_l (L' := [some (.ref G.1), some (.ref (z + 0)), some (.ref (z + 221)), some (.ref (z + 228)), some (.int (Int32.ofInt l4)), some (.int (Int32.ofInt r167.1)), some (.int (Int32.ofInt r171.1)), none, none]) (st' := []) qd187_621 rfl ?_
                          refine go_l qd187_623 rfl ?_
                          obtain ⟨r173, e172, h⟩ := sw_bind h
                          refine ga_kv (a := 221) (as := []) (rest := []) qd187_624 qk187_82 (sw_sl hn (by decide)) rfl rfl rfl (Nat.le_of_ble_eq_true rfl) (Nat.le_of_ble_eq_true rfl) rfl (A95 hn e172 (sw_bkv ?_))
                          refine go_l qd187_627 rfl ?_
                          obtain ⟨_u, e174, h⟩ := sw_bind h
                          by_cases hb175 : r173 = r167.1
                          · replace h := sw_ifY hb175 h
                            refine ga_ceqY (t := 634) qd187_629 e174 hb175 rfl ?_
                            refine go_l qd187_634 rfl ?_
                            obtain ⟨_u, e176, h⟩ := sw_bind h
                            by_cases hb177 : r167.1 = 0
                            · replace h := sw_ifY hb177 h
                              refine ga_zneY (t := 651) qd187_636 e176 hb177 rfl ?_
                              refine go_l qd187_639 rfl ?_
                              refine go_s qd187_640 rfl ?_
                              obtain ⟨v179, e178, h⟩ := sw_bind h
                              refine ga_lald qd187_641 ho e178 ?_
                              refine go_l qd187_642 rfl ?_
                              obtain ⟨_u, e180, h⟩ := sw_bind h
                              refine ga_i2l qd187_644 e180 ?_
                              by_cases hb182 : v179 = r171.1
                              · replace h := sw_ifY hb182 h
                                refine ga_lceY (t := 651) qd187_645 hb182 qd187_646 rfl ?_
                                refine ga_jp (t := 1375) qd187_651 rfl ?_
                                refine ga_ii (L' := [some (.ref G.1), some (.ref (z + 0)), some (.ref (z + 221)), some (.ref (z + 228)), some (.int (Int32.ofInt (l4 + 3))), some (.int (Int32.ofInt r167.1)), some (.int (Int32.ofInt r171.1)), none, none]) qd187_1375 rfl rfl ?_
                                refine ga_jp (t := 23) qd187_1378 rfl ?_
                                exact sq_weak (L := [some (.ref G.1), some (.ref (z + 0)), some (.ref (z + 221)), some (.ref (z + 228)), some (.int (Int32.ofInt (l4 + 3))), none, none, none, none]) ⟨rfl, rfl, rfl, rfl, rfl, trivial⟩ (ih r171.2 (l4 + 3) K168 (fun K2 hK2 => kk K2 (⟨by have := hK2.1; have := hk169.1; omega, by have := hK2.2; have := hk169.2; omega⟩)) (fun K2 hK2 => kr K2 (⟨by have := hK2.1; have := hk169.1; omega, by have := hK2.2; have := hk169.2; omega⟩)) h)
                              · replace h := sw_ifN hb182 h
                                obtain ⟨_u, e181, h⟩ := sw_bind h
                                refine ga_lceN (t := 651) qd187_645 e181 hb182 qd187_646 rfl ?_
                                refine go_s qd187_649 rfl ?_
                                exact ga_rb (u := ()) qd187_650 qr187 (by decide) (kr _ ⟨by have := hk169.1; omega, by have := hk169.2; omega⟩ _ (sw_sj h).symm)
                            · replace h := sw_ifN hb177 h
                              refine ga_zneN (t := 651) qd187_636 e176 hb177 rfl ?_
                              refine ga_jp (t := 1375) qd187_651 rfl ?_
                              refine ga_ii (L' := [some (.ref G.1), some (.ref (z + 0)), some (.ref (z + 221)), some (.ref (z + 228)), some (.int (Int32.ofInt (l4 + 3))), some (.int (Int32.ofInt r167.1)), some (.int (Int32.ofInt r171.1)), none, none]) qd187_1375 rfl rfl ?_
                              refine ga_jp (t := 23) qd187_1378 rfl ?_
                              exact sq_weak (L := [some (.ref G.1), some (.ref (z + 0)), some (.ref (z + 221)), some (.ref (z + 228)), some (.int (Int32.ofInt (l4 + 3))), none, none, none, none]) ⟨rfl, rfl, rfl, rfl, rfl, trivial⟩ (ih r171.2 (l4 + 3) K168 (fun K2 hK2 => kk K2 (⟨by have := hK2.1; have := hk169.1; omega, by have := hK2.2; have := hk169.2; omega⟩)) (fun K2 hK2 => kr K2 (⟨by have := hK2.1; have := hk169.1; omega, by have := hK2.2; have := hk169.2; omega⟩)) h)
                          · replace h := sw_ifN hb175 h
                            refine ga_ceqN (t := 634) qd187_629 e174 hb175 rfl ?_
                            refine go_s qd187_632 rfl ?_
                            exact ga_rb (u := ()) qd187_633 qr187 (by decide) (kr _ ⟨by have := hk169.1; omega, by have := hk169.2; omega⟩ _ (sw_sj h).symm)
                        · replace h := sw_ifN hb165 h
                          by_cases hb183 : ((sw_xs G l4) % 32) = 10
                          · replace h := sw_ifY hb183 h
                            refine ga_sw (t := 654) qd187_39 rfl hb183 rfl ?_
                            refine go_l qd187_654 rfl ?_
                            obtain ⟨r185, e184, h⟩ := sw_bind h
                            refine ga_kv (a := 0) (as := []) (rest := []) qd187_655 qk187_116 (sw_sl hn (by decide)) rfl rfl rfl (Nat.le_of_ble_eq_true rfl) (Nat.le_of_ble_eq_true rfl) rfl (A69 hn e184 (sw_bkv ?_))
                            refine go_l qd187_658 rfl ?_
                            obtain ⟨r187, e186, h⟩ := sw_bind h
                            refine ga_kv (a := 221) (as := []) (rest := [.int (Int32.ofInt r185.1)]) qd187_659 qk187_119 (sw_sl hn (by decide)) rfl rfl rfl (Nat.le_of_ble_eq_true rfl) (Nat.le_of_ble_eq_true rfl) rfl (A143 hn e186 (sw_bkv ?_))
                            obtain ⟨_u, e188, h⟩ := sw_bind h
                            by_cases hb189 : r185.1 = r187.1
                            · replace h := sw_ifY hb189 h
                              refine ga_ceqY (t := 1375) qd187_662 e188 hb189 rfl ?_
                              refine ga_ii (L' := [some (.ref G.1), some (.ref (z + 0)), some (.ref (z + 221)), some (.ref (z + 228)), some (.int (Int32.ofInt (l4 + 3))), none, none, none, none]) qd187_1375 rfl rfl ?_
                              refine ga_jp (t := 23) qd187_1378 rfl ?_
                              exact sq_weak (L := [some (.ref G.1), some (.ref (z + 0)), some (.ref (z + 221)), some (.ref (z + 228)), some (.int (Int32.ofInt (l4 + 3))), none, none, none, none]) ⟨rfl, rfl, rfl, rfl, rfl, trivial⟩ (ih r187.2 (l4 + 3) K (fun K2 hK2 => kk K2 (⟨by have := hK2.1; omega, by have := hK2.2; omega⟩)) (fun K2 hK2 => kr K2 (⟨by have := hK2.1; omega, by have := hK2.2; omega⟩)) h)
                            · replace h := sw_ifN hb189 h
                              refine ga_ceqN (t := 1375) qd187_662 e188 hb189 rfl ?_
                              refine go_s qd187_665 rfl ?_
                              exact ga_rb (u := ()) qd187_666 qr187 (by decide) (kr _ ⟨by omega, by omega⟩ _ (sw_sj h).symm)
                          · replace h := sw_ifN hb183 h
                            by_cases hb190 : ((sw_xs G l4) % 32) = 11
                            · replace h := sw_ifY hb190 h
                              refine ga_sw (t := 667) qd187_39 rfl hb190 rfl ?_
                              refine go_l qd187_667 rfl ?_
                              refine go_l qd187_668 rfl ?_
                              obtain ⟨r192, e191, h⟩ := sw_bind h
                              refine ga_kS (as := [.ref (z + 0), .ref (z + 228)]) (rest := []) qd187_669 qk187_120 rfl rfl (Nat.le_of_ble_eq_true rfl) (Nat.le_of_ble_eq_true rfl) rfl (A177 hn ho e191 (fun K193 hk194 => sw_bkv ?_))
                              refine go_l (L' := [some (.ref G.1), some (.ref (z + 0)), some (.ref (z + 221)), some (.ref (z + 228)), some (.int (Int32.ofInt l4)), some (.int (Int32.ofInt r192.1)), none, none, none]) (st' := []) qd187_672 rfl ?_
                              refine go_l qd187_674 rfl ?_
                              obtain ⟨r196, e195, h⟩ := sw_bind h
                              refine ga_kv (a := 221) (as := []) (rest := []) qd187_675 qk187_122 (sw_sl hn (by decide)) rfl rfl rfl (Nat.le_of_ble_eq_true rfl) (Nat.le_of_ble_eq_true rfl) rfl (A144 hn e195 (sw_bkv ?_))
                              refine go_l (L' := [some (.ref G.1), some (.ref (z + 0)), some (.ref (z + 221)), some (.ref (z + 228)), some (.int (Int32.ofInt l4)), some (.int (Int32.ofInt r192.1)), some (.int (Int32.ofInt r196.1)), none, none]) (st' := []) qd187_678 rfl ?_
                              refine go_l qd187_680 rfl ?_
                              obtain ⟨r198, e197, h⟩ := sw_bind h
                              refine ga_kv (a := 221) (as := []) (rest := []) qd187_681 qk187_82 (sw_sl hn (by decide)) rfl rfl rfl (Nat.le_of_ble_eq_true rfl) (Nat.le_of_ble_eq_true rfl) rfl (A95 hn e197 (sw_bkv ?_))
                              refine go_l qd187_684 rfl ?_
                              obtain ⟨_u, e199, h⟩ := sw_bind h
                              by_cases hb200 : r198 = r192.1
                              · replace h := sw_ifY hb200 h
                                refine ga_ceqY (t := 691) qd187_686 e199 hb200 rfl ?_
                                refine go_l qd187_691 rfl ?_
                                obtain ⟨_u, e201, h⟩ := sw_bind h
                                by_cases hb202 : r192.1 = 0
                                · replace h := sw_ifY hb202 h
                                  refine ga_zneY (t := 708) qd187_693 e201 hb202 rfl ?_
                                  refine go_l qd187_696 rfl ?_
                                  refine go_s qd187_697 rfl ?_
                                  obtain ⟨v204, e203, h⟩ := sw_bind h
                                  refine ga_lald qd187_698 ho e203 ?_
                                  refine go_l qd187_699 rfl ?_
                                  obtain ⟨_u, e205, h⟩ := sw_bind h
                                  refine ga_i2l qd187_701 e205 ?_
                                  by_cases hb207 : v204 = r196.1
                                  · replace h := sw_ifY hb207 h
                                    refine ga_lceY (t := 708) qd187_702 hb207 qd187_703 rfl ?_
                                    refine ga_jp (t := 1375) qd187_708 rfl ?_
                                    refine ga_ii (L' := [some (.ref G.1), some (.ref (z + 0)), some (.ref (z + 221)), some (.ref (z + 228)), some (.int (Int32.ofInt (l4 + 3))), some (.int (Int32.ofInt r192.1)), some (.int (Int32.ofInt r196.1)), none, none]) qd187_1375 rfl rfl ?_
                                    refine ga_jp (t := 23) qd187_1378 rfl ?_
                                    exact sq_weak (L := [some (.ref G.1), some (.ref (z + 0)), some (.ref (z + 221)), some (.ref (z + 228)), some (.int (Int32.ofInt (l4 + 3))), none, none, none, none]) ⟨rfl, rfl, rfl, rfl, rfl, trivial⟩ (ih r196.2 (l4 + 3) K193 (fun K2 hK2 => kk K2 (⟨by have := hK2.1; have := hk194.1; omega, by have := hK2.2; have := hk194.2; omega⟩)) (fun K2 hK2 => kr K2 (⟨by have := hK2.1; have := hk194.1; omega, by have := hK2.2; have := hk194.2; omega⟩)) h)
                                  · replace h := sw_ifN hb207 h
                                    obtain ⟨_u, e206, h⟩ := sw_bind h
                                    refine ga_lceN (t := 708) qd187_702 e206 hb207 qd187_703 rfl ?_
                                    refine go_s qd187_706 rfl ?_
                                    exact ga_rb (u := ()) qd187_707 qr187 (by decide) (kr _ ⟨by have := hk194.1; omega, by have := hk194.2; omega⟩ _ (sw_sj h).symm)
                                · replace h := sw_ifN hb202 h
                                  refine ga_zneN (t := 708) qd187_693 e201 hb202 rfl ?_
                                  refine ga_jp (t := 1375) qd187_708 rfl ?_
                                  refine ga_ii (L' := [some (.ref G.1), some (.ref (z + 0)), some (.ref (z + 221)), some (.ref (z + 228)), some (.int (Int32.ofInt (l4 + 3))), some (.int (Int32.ofInt r192.1)), some (.int (Int32.ofInt r196.1)), none, none]) qd187_1375 rfl rfl ?_
                                  refine ga_jp (t := 23) qd187_1378 rfl ?_
                                  exact sq_weak (L := [some (.ref G.1), some (.ref (z + 0)), some (.ref (z + 221)), some (.ref (z + 228)), some (.int (Int32.ofInt (l4 + 3))), none, none, none, none]) ⟨rfl, rfl, rfl, rfl, rfl, trivial⟩ (ih r196.2 (l4 + 3) K193 (fun K2 hK2 => kk K2 (⟨by have := hK2.1; have := hk194.1; omega, by have := hK2.2; have := hk194.2; omega⟩)) (fun K2 hK2 => kr K2 (⟨by have := hK2.1; have := hk194.1; omega, by have := hK2.2; have := hk194.2; omega⟩)) h)
                              · replace h := sw_ifN hb200 h
                                refine ga_ceqN (t := 691) qd187_686 e199 hb200 rfl ?_
                                refine go_s qd187_689 rfl ?_
                                exact ga_rb (u := ()) qd187_690 qr187 (by decide) (kr _ ⟨by have := hk194.1; omega, by have := hk194.2; omega⟩ _ (sw_sj h).symm)
                            · replace h := sw_ifN hb190 h
                              by_cases hb208 : ((sw_xs G l4) % 32) = 12
                              · replace h := sw_ifY hb208 h
                                refine ga_sw (t := 711) qd187_39 rfl hb208 rfl ?_
                                refine go_l qd187_711 rfl ?_
                                refine go_l qd187_712 rfl ?_
                                obtain ⟨r210, e209, h⟩ := sw_bind h
                                refine ga_kS (as := [.ref (z + 0), .ref (z + 228)]) (rest := []) qd187_713 qk187_123 rfl rfl (Nat.le_of_ble_eq_true rfl) (Nat.le_of_ble_eq_true rfl) rfl (A178 hn ho e209 (fun K211 hk212 => sw_bkv ?_))
                                refine go_l (L' := [some (.ref G.1), some (.ref (z + 0)), some (.ref (z + 221)), some (.ref (z + 228)), some (.int (Int32.ofInt l4)), some (.int (Int32.ofInt r210.1)), none, none, none]) (st' := []) qd187_716 rfl ?_
                                refine go_l qd187_718 rfl ?_
                                obtain ⟨r214, e213, h⟩ := sw_bind h
                                refine ga_kv (a := 221) (as := []) (rest := []) qd187_719 qk187_125 (sw_sl hn (by decide)) rfl rfl rfl (Nat.le_of_ble_eq_true rfl) (Nat.le_of_ble_eq_true rfl) rfl (A145 hn e213 (sw_bkv ?_))
                                refine go_l (L' := [some (.ref G.1), some (.ref (z + 0)), some (.ref (z + 221)), some (.ref (z + 228)), some (.int (Int32.ofInt l4)), some (.int (Int32.ofInt r210.1)), some (.int (Int32.ofInt r214.1)), none, none]) (st' := []) qd187_722 rfl ?_
                                refine go_l qd187_724 rfl ?_
                                obtain ⟨r216, e215, h⟩ := sw_bind h
                                refine ga_kv (a := 221) (as := []) (rest := []) qd187_725 qk187_82 (sw_sl hn (by decide)) rfl rfl rfl (Nat.le_of_ble_eq_true rfl) (Nat.le_of_ble_eq_true rfl) rfl (A95 hn e215 (sw_bkv ?_))
                                refine go_l qd187_728 rfl ?_
                                obtain ⟨_u, e217, h⟩ := sw_bind h
                                by_cases hb218 : r216 = r210.1
                                · replace h := sw_ifY hb218 h
                                  refine ga_ceqY (t := 735) qd187_730 e217 hb218 rfl ?_
                                  refine go_l qd187_735 rfl ?_
                                  obtain ⟨_u, e219, h⟩ := sw_bind h
                                  by_cases hb220 : r210.1 = 0
                                  · replace h := sw_ifY hb220 h
                                    refine ga_zneY (t := 752) qd187_737 e219 hb220 rfl ?_
                                    refine go_l qd187_740 rfl ?_
                                    refine go_s qd187_741 rfl ?_
                                    obtain ⟨v222, e221, h⟩ := sw_bind h
                                    refine ga_lald qd187_742 ho e221 ?_
                                    refine go_l qd187_743 rfl ?_
                                    obtain ⟨_u, e223, h⟩ := sw_bind h
                                    refine ga_i2l qd187_745 e223 ?_
                                    by_cases hb225 : v222 = r214.1
                                    · replace h := sw_ifY hb225 h
                                      refine ga_lceY (t := 752) qd187_746 hb225 qd187_747 rfl ?_
                                      refine ga_jp (t := 1375) qd187_752 rfl ?_
                                      refine ga_ii (L' := [some (.ref G.1), some (.ref (z + 0)), some (.ref (z + 221)), some (.ref (z + 228)), some (.int (Int32.ofInt (l4 + 3))), some (.int (Int32.ofInt r210.1)), some (.int (Int32.ofInt r214.1)), none, none]) qd187_1375 rfl rfl ?_
                                      refine ga_jp (t := 23) qd187_1378 rfl ?_
                                      exact sq_weak (L := [some (.ref G.1), some (.ref (z + 0)), some (.ref (z + 221)), some (.ref (z + 228)), some (.int (Int32.ofInt (l4 + 3))), none, none, none, none]) ⟨rfl, rfl, rfl, rfl, rfl, trivial⟩ (ih r214.2 (l4 + 3) K211 (fun K2 hK2 => kk K2 (⟨by have := hK2.1; have := hk212.1; omega, by have := hK2.2; have := hk212.2; omega⟩)) (fun K2 hK2 => kr K2 (⟨by have := hK2.1; have := hk212.1; omega, by have := hK2.2; have := hk212.2; omega⟩)) h)
                                    · replace h := sw_ifN hb225 h
                                      obtain ⟨_u, e224, h⟩ := sw_bind h
                                      refine ga_lceN (t := 752) qd187_746 e224 hb225 qd187_747 rfl ?_
                                      refine go_s qd187_750 rfl ?_
                                      exact ga_rb (u := ()) qd187_751 qr187 (by decide) (kr _ ⟨by have := hk212.1; omega, by have := hk212.2; omega⟩ _ (sw_sj h).symm)
                                  · replace h := sw_ifN hb220 h
                                    refine ga_zneN (t := 752) qd187_737 e219 hb220 rfl ?_
                                    refine ga_jp (t := 1375) qd187_752 rfl ?_
                                    refine ga_ii (L' := [some (.ref G.1), some (.ref (z + 0)), some (.ref (z + 221)), some (.ref (z + 228)), some (.int (Int32.ofInt (l4 + 3))), some (.int (Int32.ofInt r210.1)), some (.int (Int32.ofInt r214.1)), none, none]) qd187_1375 rfl rfl ?_
                                    refine ga_jp (t := 23) qd187_1378 rfl ?_
                                    exact sq_weak (L := [some (.ref G.1), some (.ref (z + 0)), some (.ref (z + 221)), some (.ref (z + 228)), some (.int (Int32.ofInt (l4 + 3))), none, none, none, none]) ⟨rfl, rfl, rfl, rfl, rfl, trivial⟩ (ih r214.2 (l4 + 3) K211 (fun K2 hK2 => kk K2 (⟨by have := hK2.1; have := hk212.1; omega, by have := hK2.2; have := hk212.2; omega⟩)) (fun K2 hK2 => kr K2 (⟨by have := hK2.1; have := hk212.1; omega, by have := hK2.2; have := hk212.2; omega⟩)) h)
                                · replace h := sw_ifN hb218 h
                                  refine ga_ceqN (t := 735) qd187_730 e217 hb218 rfl ?_
                                  refine go_s qd187_733 rfl ?_
                                  exact ga_rb (u := ()) qd187_734 qr187 (by decide) (kr _ ⟨by have := hk212.1; omega, by have := hk212.2; omega⟩ _ (sw_sj h).symm)
                              · replace h := sw_ifN hb208 h
                                by_cases hb226 : ((sw_xs G l4) % 32) = 13
                                · replace h := sw_ifY hb226 h
                                  refine ga_sw (t := 755) qd187_39 rfl hb226 rfl ?_
                                  refine go_l qd187_755 rfl ?_
                                  refine go_l qd187_756 rfl ?_
                                  refine go_l qd187_757 rfl ?_
                                  refine go_s qd187_759 rfl ?_
                                  refine ga_iadd qd187_760 ?_
                                  obtain ⟨_u, e227, h⟩ := sw_bind h
                                  refine ga_ldG qd187_761 hG.2.1 hG.1 e227 ?_
                                  refine go_l qd187_762 rfl ?_
                                  refine go_l qd187_763 rfl ?_
                                  refine go_s qd187_765 rfl ?_
                                  refine ga_iadd qd187_766 ?_
                                  obtain ⟨_u, e228, h⟩ := sw_bind h
                                  refine ga_ldG qd187_767 hG.2.1 hG.1 e228 ?_
                                  refine go_l qd187_768 rfl ?_
                                  obtain ⟨r230, e229, h⟩ := sw_bind h
                                  refine ga_kS (as := [.ref (z + 0), .int (Int32.ofInt (sw_xs G (l4 + 1))), .int (Int32.ofInt (sw_xs G (l4 + 2))), .ref (z + 228)]) (rest := []) qd187_769 qk187_126 rfl rfl (Nat.le_of_ble_eq_true rfl) (Nat.le_of_ble_eq_true rfl) rfl (A179 hn ho e229 (fun K231 hk232 => sw_bkv ?_))
                                  refine go_l (L' := [some (.ref G.1), some (.ref (z + 0)), some (.ref (z + 221)), some (.ref (z + 228)), some (.int (Int32.ofInt l4)), some (.int (Int32.ofInt r230.1)), none, none, none]) (st' := []) qd187_772 rfl ?_
                                  refine go_l qd187_774 rfl ?_
                                  refine go_l qd187_775 rfl ?_
                                  refine go_l qd187_776 rfl ?_
                                  refine go_s qd187_778 rfl ?_
                                  refine ga_iadd qd187_779 ?_
                                  obtain ⟨_u, e233, h⟩ := sw_bind h
                                  refine ga_ldG qd187_780 hG.2.1 hG.1 e233 ?_
                                  refine go_l qd187_781 rfl ?_
                                  refine go_l qd187_782 rfl ?_
                                  refine go_s qd187_784 rfl ?_
                                  refine ga_iadd qd187_785 ?_
                                  obtain ⟨_u, e234, h⟩ := sw_bind h
                                  refine ga_ldG qd187_786 hG.2.1 hG.1 e234 ?_
                                  obtain ⟨r236, e235, h⟩ := sw_bind h
                                  refine ga_kv (a := 221) (as := [.int (Int32.ofInt (sw_xs G (l4 + 1))), .int (Int32.ofInt (sw_xs G (l4 + 2)))]) (rest := []) qd187_787 qk187_128 (sw_sl hn (by decide)) rfl rfl rfl (Nat.le_of_ble_eq_true rfl) (Nat.le_of_ble_eq_true rfl) rfl (A148 hn e235 (sw_bkv ?_))
                                  refine go_l (L' := [some (.ref G.1), some (.ref (z + 0)), some (.ref (z + 221)), some (.ref (z + 228)), some (.int (Int32.ofInt l4)), some (.int (Int32.ofInt r230.1)), some (.int (Int32.ofInt r236.1)), none, none]) (st' := []) qd187_790 rfl ?_
                                  refine go_l qd187_792 rfl ?_
                                  obtain ⟨r238, e237, h⟩ := sw_bind h
                                  refine ga_kv (a := 221) (as := []) (rest := []) qd187_793 qk187_82 (sw_sl hn (by decide)) rfl rfl rfl (Nat.le_of_ble_eq_true rfl) (Nat.le_of_ble_eq_true rfl) rfl (A95 hn e237 (sw_bkv ?_))
                                  refine go_l qd187_796 rfl ?_
                                  obtain ⟨_u, e239, h⟩ := sw_bind h
                                  by_cases hb240 : r238 = r230.1
                                  · replace h := sw_ifY hb240 h
                                    refine ga_ceqY (t := 803) qd187_798 e239 hb240 rfl ?_
                                    refine go_l qd187_803 rfl ?_
                                    obtain ⟨_u, e241, h⟩ := sw_bind h
                                    by_cases hb242 : r230.1 = 0
                                    · replace h := sw_ifY hb242 h
                                      refine ga_zneY (t := 820) qd187_805 e241 hb242 rfl ?_
                                      refine go_l qd187_808 rfl ?_
                                      refine go_s qd187_809 rfl ?_
                                      obtain ⟨v244, e243, h⟩ := sw_bind h
                                      refine ga_lald qd187_810 ho e243 ?_
                                      refine go_l qd187_811 rfl ?_
                                      obtain ⟨_u, e245, h⟩ := sw_bind h
                                      refine ga_i2l qd187_813 e245 ?_
                                      by_cases hb247 : v244 = r236.1
                                      · replace h := sw_ifY hb247 h
                                        refine ga_lceY (t := 820) qd187_814 hb247 qd187_815 rfl ?_
                                        refine ga_jp (t := 1375) qd187_820 rfl ?_
                                        refine ga_ii (L' := [some (.ref G.1), some (.ref (z + 0)), some (.ref (z + 221)), some (.ref (z + 228)), some (.int (Int32.ofInt (l4 + 3))), some (.int (Int32.ofInt r230.1)), some (.int (Int32.ofInt r236.1)), none, none]) qd187_1375 rfl rfl ?_
                                        refine ga_jp (t := 23) qd187_1378 rfl ?_
                                        exact sq_weak (L := [some (.ref G.1), some (.ref (z + 0)), some (.ref (z + 221)), some (.ref (z + 228)), some (.int (Int32.ofInt (l4 + 3))), none, none, none, none]) ⟨rfl, rfl, rfl, rfl, rfl, trivial⟩ (ih r236.2 (l4 + 3) K231 (fun K2 hK2 => kk K2 (⟨by have := hK2.1; have := hk232.1; omega, by have := hK2.2; have := hk232.2; omega⟩)) (fun K2 hK2 => kr K2 (⟨by have := hK2.1; have := hk232.1; omega, by have := hK2.2; have := hk232.2; omega⟩)) h)
                                      · replace h := sw_ifN hb247 h
                                        obtain ⟨_u, e246, h⟩ := sw_bind h
                                        refine ga_lceN (t := 820) qd187_814 e246 hb247 qd187_815 rfl ?_
                                        refine go_s qd187_818 rfl ?_
                                        exact ga_rb (u := ()) qd187_819 qr187 (by decide) (kr _ ⟨by have := hk232.1; omega, by have := hk232.2; omega⟩ _ (sw_sj h).symm)
                                    · replace h := sw_ifN hb242 h
                                      refine ga_zneN (t := 820) qd187_805 e241 hb242 rfl ?_
                                      refine ga_jp (t := 1375) qd187_820 rfl ?_
                                      refine ga_ii (L' := [some (.ref G.1), some (.ref (z + 0)), some (.ref (z + 221)), some (.ref (z + 228)), some (.int (Int32.ofInt (l4 + 3))), some (.int (Int32.ofInt r230.1)), some (.int (Int32.ofInt r236.1)), none, none]) qd187_1375 rfl rfl ?_
                                      refine ga_jp (t := 23) qd187_1378 rfl ?_
                                      exact sq_weak (L := [some (.ref G.1), some (.ref (z + 0)), some (.ref (z + 221)), some (.ref (z + 228)), some (.int (Int32.ofInt (l4 + 3))), none, none, none, none]) ⟨rfl, rfl, rfl, rfl, rfl, trivial⟩ (ih r236.2 (l4 + 3) K231 (fun K2 hK2 => kk K2 (⟨by have := hK2.1; have := hk232.1; omega, by have := hK2.2; have := hk232.2; omega⟩)) (fun K2 hK2 => kr K2 (⟨by have := hK2.1; have := hk232.1; omega, by have := hK2.2; have := hk232.2; omega⟩)) h)
                                  · replace h := sw_ifN hb240 h
                                    refine ga_ceqN (t := 803) qd187_798 e239 hb240 rfl ?_
                                    refine go_s qd187_801 rfl ?_
                                    exact ga_rb (u := ()) qd187_802 qr187 (by decide) (kr _ ⟨by have := hk232.1; omega, by have := hk232.2; omega⟩ _ (sw_sj h).symm)
                                · replace h := sw_ifN hb226 h
                                  by_cases hb248 : ((sw_xs G l4) % 32) = 14
                                  · replace h := sw_ifY hb248 h
                                    refine ga_sw (t := 823) qd187_39 rfl hb248 rfl ?_
                                    refine go_l qd187_823 rfl ?_
                                    refine go_l qd187_824 rfl ?_
                                    refine go_l qd187_825 rfl ?_
                                    refine go_s qd187_827 rfl ?_
                                    refine ga_iadd qd187_828 ?_
                                    obtain ⟨_u, e249, h⟩ := sw_bind h
                                    refine ga_ldG qd187_829 hG.2.1 hG.1 e249 ?_
                                    refine go_l qd187_830 rfl ?_
                                    refine go_l qd187_831 rfl ?_
                                    refine go_s qd187_833 rfl ?_
                                    refine ga_iadd qd187_834 ?_
                                    obtain ⟨_u, e250, h⟩ := sw_bind h
                                    refine ga_ldG qd187_835 hG.2.1 hG.1 e250 ?_
                                    refine go_l qd187_836 rfl ?_
                                    obtain ⟨r252, e251, h⟩ := sw_bind h
                                    refine ga_kS (as := [.ref (z + 0), .int (Int32.ofInt (sw_xs G (l4 + 1))), .int (Int32.ofInt (sw_xs G (l4 + 2))), .ref (z + 228)]) (rest := []) qd187_837 qk187_129 rfl rfl (Nat.le_of_ble_eq_true rfl) (Nat.le_of_ble_eq_true rfl) rfl (A180 hn ho e251 (fun K253 hk254 => sw_bkv ?_))
                                    refine go_l (L' := [some (.ref G.1), some (.ref (z + 0)), some (.ref (z + 221)), some (.ref (z + 228)), some (.int (Int32.ofInt l4)), some (.int (Int32.ofInt r252.1)), none, none, none]) (st' := []) qd187_840 rfl ?_
                                    refine go_l qd187_842 rfl ?_
                                    refine go_l qd187_843 rfl ?_
                                    refine go_l qd187_844 rfl ?_
                                    refine go_s qd187_846 rfl ?_
                                    refine ga_iadd qd187_847 ?_
                                    obtain ⟨_u, e255, h⟩ := sw_bind h
                                    refine ga_ldG qd187_848 hG.2.1 hG.1 e255 ?_
                                    refine go_l qd187_849 rfl ?_
                                    refine go_l qd187_850 rfl ?_
                                    refine go_s qd187_852 rfl ?_
                                    refine ga_iadd qd187_853 ?_
                                    obtain ⟨_u, e256, h⟩ := sw_bind h
                                    refine ga_ldG qd187_854 hG.2.1 hG.1 e256 ?_
                                    obtain ⟨r258, e257, h⟩ := sw_bind h
                                    refine ga_kv (a := 221) (as := [.int (Int32.ofInt (sw_xs G (l4 + 1))), .int (Int32.ofInt (sw_xs G (l4 + 2)))]) (rest := []) qd187_855 qk187_131 (sw_sl hn (by decide)) rfl rfl rfl (Nat.le_of_ble_eq_true rfl) (Nat.le_of_ble_eq_true rfl) rfl (A149 hn e257 (sw_bkv ?_))
                                    refine go_l (L' := [some (.ref G.1), some (.ref (z + 0)), some (.ref (z + 221)), some (.ref (z + 228)), some (.int (Int32.ofInt l4)), some (.int (Int32.ofInt r252.1)), some (.int (Int32.ofInt r258.1)), none, none]) (st' := []) qd187_858 rfl ?_
                                    refine go_l qd187_860 rfl ?_
                                    obtain ⟨r260, e259, h⟩ := sw_bind h
                                    refine ga_kv (a := 221) (as := []) (rest := []) qd187_861 qk187_82 (sw_sl hn (by decide)) rfl rfl rfl (Nat.le_of_ble_eq_true rfl) (Nat.le_of_ble_eq_true rfl) rfl (A95 hn e259 (sw_bkv ?_))
                                    refine go_l qd187_864 rfl ?_
                                    obtain ⟨_u, e261, h⟩ := sw_bind h
                                    by_cases hb262 : r260 = r252.1
                                    · replace h := sw_ifY hb262 h
                                      refine ga_ceqY (t := 871) qd187_866 e261 hb262 rfl ?_
                                      refine go_l qd187_871 rfl ?_
                                      obtain ⟨_u, e263, h⟩ := sw_bind h
                                      by_cases hb264 : r252.1 = 0
                                      · replace h := sw_ifY hb264 h
                                        refine ga_zneY (t := 888) qd187_873 e263 hb264 rfl ?_
                                        refine go_l qd187_876 rfl ?_
                                        refine go_s qd187_877 rfl ?_
                                        obtain ⟨v266, e265, h⟩ := sw_bind h
                                        refine ga_lald qd187_878 ho e265 ?_
                                        refine go_l qd187_879 rfl ?_
                                        obtain ⟨_u, e267, h⟩ := sw_bind h
                                        refine ga_i2l qd187_881 e267 ?_
                                        by_cases hb269 : v266 = r258.1
                                        · replace h := sw_ifY hb269 h
                                          refine ga_lceY (t := 888) qd187_882 hb269 qd187_883 rfl ?_
                                          refine ga_jp (t := 1375) qd187_888 rfl ?_
                                          refine ga_ii (L' := [some (.ref G.1), some (.ref (z + 0)), some (.ref (z + 221)), some (.ref (z + 228)), some (.int (Int32.ofInt (l4 + 3))), some (.int (Int32.ofInt r252.1)), some (.int (Int32.ofInt r258.1)), none, none]) qd187_1375 rfl rfl ?_
                                          refine ga_jp (t := 23) qd187_1378 rfl ?_
                                          exact sq_weak (L := [some (.ref G.1), some (.ref (z + 0)), some (.ref (z + 221)), some (.ref (z + 228)), some (.int (Int32.ofInt (l4 + 3))), none, none, none, none]) ⟨rfl, rfl, rfl, rfl, rfl, trivial⟩ (ih r258.2 (l4 + 3) K253 (fun K2 hK2 => kk K2 (⟨by have := hK2.1; have := hk254.1; omega, by have := hK2.2; have := hk254.2; omega⟩)) (fun K2 hK2 => kr K2 (⟨by have := hK2.1; have := hk254.1; omega, by have := hK2.2; have := hk254.2; omega⟩)) h)
                                        · replace h := sw_ifN hb269 h
                                          obtain ⟨_u, e268, h⟩ := sw_bind h
                                          refine ga_lceN (t := 888) qd187_882 e268 hb269 qd187_883 rfl ?_
                                          refine go_s qd187_886 rfl ?_
                                          exact ga_rb (u := ()) qd187_887 qr187 (by decide) (kr _ ⟨by have := hk254.1; omega, by have := hk254.2; omega⟩ _ (sw_sj h).symm)
                                      · replace h := sw_ifN hb264 h
                                        refine ga_zneN (t := 888) qd187_873 e263 hb264 rfl ?_
                                        refine ga_jp (t := 1375) qd187_888 rfl ?_
                                        refine ga_ii (L' := [some (.ref G.1), some (.ref (z + 0)), some (.ref (z + 221)), some (.ref (z + 228)), some (.int (Int32.ofInt (l4 + 3))), some (.int (Int32.ofInt r252.1)), some (.int (Int32.ofInt r258.1)), none, none]) qd187_1375 rfl rfl ?_
                                        refine ga_jp (t := 23) qd187_1378 rfl ?_
                                        exact sq_weak (L := [some (.ref G.1), some (.ref (z + 0)), some (.ref (z + 221)), some (.ref (z + 228)), some (.int (Int32.ofInt (l4 + 3))), none, none, none, none]) ⟨rfl, rfl, rfl, rfl, rfl, trivial⟩ (ih r258.2 (l4 + 3) K253 (fun K2 hK2 => kk K2 (⟨by have := hK2.1; have := hk254.1; omega, by have := hK2.2; have := hk254.2; omega⟩)) (fun K2 hK2 => kr K2 (⟨by have := hK2.1; have := hk254.1; omega, by have := hK2.2; have := hk254.2; omega⟩)) h)
                                    · replace h := sw_ifN hb262 h
                                      refine ga_ceqN (t := 871) qd187_866 e261 hb262 rfl ?_
                                      refine go_s qd187_869 rfl ?_
                                      exact ga_rb (u := ()) qd187_870 qr187 (by decide) (kr _ ⟨by have := hk254.1; omega, by have := hk254.2; omega⟩ _ (sw_sj h).symm)
                                  · replace h := sw_ifN hb248 h
                                    by_cases hb270 : ((sw_xs G l4) % 32) = 15
                                    · replace h := sw_ifY hb270 h
                                      refine ga_sw (t := 891) qd187_39 rfl hb270 rfl ?_
                                      refine go_l qd187_891 rfl ?_
                                      refine go_l qd187_892 rfl ?_
                                      refine go_l qd187_893 rfl ?_
                                      refine go_s qd187_895 rfl ?_
                                      refine ga_iadd qd187_896 ?_
                                      obtain ⟨_u, e271, h⟩ := sw_bind h
                                      refine ga_ldG qd187_897 hG.2.1 hG.1 e271 ?_
                                      refine go_l qd187_898 rfl ?_
                                      refine go_l qd187_899 rfl ?_
                                      refine go_s qd187_901 rfl ?_
                                      refine ga_iadd qd187_902 ?_
                                      obtain ⟨_u, e272, h⟩ := sw_bind h
                                      refine ga_ldG qd187_903 hG.2.1 hG.1 e272 ?_
                                      refine go_l qd187_904 rfl ?_
                                      obtain ⟨r274, e273, h⟩ := sw_bind h
                                      refine ga_kS (as := [.ref (z + 0), .int (Int32.ofInt (sw_xs G (l4 + 1))), .int (Int32.ofInt (sw_xs G (l4 + 2))), .ref (z + 228)]) (rest := []) qd187_905 qk187_132 rfl rfl (Nat.le_of_ble_eq_true rfl) (Nat.le_of_ble_eq_true rfl) rfl (A181 hn ho e273 (fun K275 hk276 => sw_bkv ?_))
                                      refine go_l (L' := [some (.ref G.1), some (.ref (z + 0)), some (.ref (z + 221)), some (.ref (z + 228)), some (.int (Int32.ofInt l4)), some (.int (Int32.ofInt r274.1)), none, none, none]) (st' := []) qd187_908 rfl ?_
                                      refine go_l qd187_910 rfl ?_
                                      refine go_l qd187_911 rfl ?_
                                      refine go_l qd187_912 rfl ?_
                                      refine go_s qd187_914 rfl ?_
                                      refine ga_iadd qd187_915 ?_
                                      obtain ⟨_u, e277, h⟩ := sw_bind h
                                      refine ga_ldG qd187_916 hG.2.1 hG.1 e277 ?_
                                      refine go_l qd187_917 rfl ?_
                                      refine go_l qd187_918 rfl ?_
                                      refine go_s qd187_920 rfl ?_
                                      refine ga_iadd qd187_921 ?_
                                      obtain ⟨_u, e278, h⟩ := sw_bind h
                                      refine ga_ldG qd187_922 hG.2.1 hG.1 e278 ?_
                                      obtain ⟨r280, e279, h⟩ := sw_bind h
                                      refine ga_kv (a := 221) (as := [.int (Int32.ofInt (sw_xs G (l4 + 1))), .int (Int32.ofInt (sw_xs G (l4 + 2)))]) (rest := []) qd187_923 qk187_134 (sw_sl hn (by decide)) rfl rfl rfl (Nat.le_of_ble_eq_true rfl) (Nat.le_of_ble_eq_true rfl) rfl (A150 hn e279 (sw_bkv ?_))
                                      refine go_l (L' := [some (.ref G.1), some (.ref (z + 0)), some (.ref (z + 221)), some (.ref (z + 228)), some (.int (Int32.ofInt l4)), some (.int (Int32.ofInt r274.1)), some (.int (Int32.ofInt r280.1)), none, none]) (st' := []) qd187_926 rfl ?_
                                      refine go_l qd187_928 rfl ?_
                                      obtain ⟨r282, e281, h⟩ := sw_bind h
                                      refine ga_kv (a := 221) (as := []) (rest := []) qd187_929 qk187_82 (sw_sl hn (by decide)) rfl rfl rfl (Nat.le_of_ble_eq_true rfl) (Nat.le_of_ble_eq_true rfl) rfl (A95 hn e281 (sw_bkv ?_))
                                      refine go_l qd187_932 rfl ?_
                                      obtain ⟨_u, e283, h⟩ := sw_bind h
                                      by_cases hb284 : r282 = r274.1
                                      · replace h := sw_ifY hb284 h
                                        refine ga_ceqY (t := 939) qd187_934 e283 hb284 rfl ?_
                                        refine go_l qd187_939 rfl ?_
                                        obtain ⟨_u, e285, h⟩ := sw_bind h
                                        by_cases hb286 : r274.1 = 0
                                        · replace h := sw_ifY hb286 h
                                          refine ga_zneY (t := 956) qd187_941 e285 hb286 rfl ?_
                                          refine go_l qd187_944 rfl ?_
                                          refine go_s qd187_945 rfl ?_
                                          obtain ⟨v288, e287, h⟩ := sw_bind h
                                          refine ga_lald qd187_946 ho e287 ?_
                                          refine go_l qd187_947 rfl ?_
                                          obtain ⟨_u, e289, h⟩ := sw_bind h
                                          refine ga_i2l qd187_949 e289 ?_
                                          by_cases hb291 : v288 = r280.1
                                          · replace h := sw_ifY hb291 h
                                            refine ga_lceY (t := 956) qd187_950 hb291 qd187_951 rfl ?_
                                            refine ga_jp (t := 1375) qd187_956 rfl ?_
                                            refine ga_ii (L' := [some (.ref G.1), some (.ref (z + 0)), some (.ref (z + 221)), some (.ref (z + 228)), some (.int (Int32.ofInt (l4 + 3))), some (.int (Int32.ofInt r274.1)), some (.int (Int32.ofInt r280.1)), none, none]) qd187_1375 rfl rfl ?_
                                            refine ga_jp (t := 23) qd187_1378 rfl ?_
                                            exact sq_weak (L := [some (.ref G.1), some (.ref (z + 0)), some (.ref (z + 221)), some (.ref (z + 228)), some (.int (Int32.ofInt (l4 + 3))), none, none, none, none]) ⟨rfl, rfl, rfl, rfl, rfl, trivial⟩ (ih r280.2 (l4 + 3) K275 (fun K2 hK2 => kk K2 (⟨by have := hK2.1; have := hk276.1; omega, by have := hK2.2; have := hk276.2; omega⟩)) (fun K2 hK2 => kr K2 (⟨by have := hK2.1; have := hk276.1; omega, by have := hK2.2; have := hk276.2; omega⟩)) h)
                                          · replace h := sw_ifN hb291 h
                                            obtain ⟨_u, e290, h⟩ := sw_bind h
                                            refine ga_lceN (t := 956) qd187_950 e290 hb291 qd187_951 rfl ?_
                                            refine go_s qd187_954 rfl ?_
                                            exact ga_rb (u := ()) qd187_955 qr187 (by decide) (kr _ ⟨by have := hk276.1; omega, by have := hk276.2; omega⟩ _ (sw_sj h).symm)
                                        · replace h := sw_ifN hb286 h
                                          refine ga_zneN (t := 956) qd187_941 e285 hb286 rfl ?_
                                          refine ga_jp (t := 1375) qd187_956 rfl ?_
                                          refine ga_ii (L' := [some (.ref G.1), some (.ref (z + 0)), some (.ref (z + 221)), some (.ref (z + 228)), some (.int (Int32.ofInt (l4 + 3))), some (.int (Int32.ofInt r274.1)), some (.int (Int32.ofInt r280.1)), none, none]) qd187_1375 rfl rfl ?_
                                          refine ga_jp (t := 23) qd187_1378 rfl ?_
                                          exact sq_weak (L := [some (.ref G.1), some (.ref (z + 0)), some (.ref (z + 221)), some (.ref (z + 228)), some (.int (Int32.ofInt (l4 + 3))), none, none, none, none]) ⟨rfl, rfl, rfl, rfl, rfl, trivial⟩ (ih r280.2 (l4 + 3) K275 (fun K2 hK2 => kk K2 (⟨by have := hK2.1; have := hk276.1; omega, by have := hK2.2; have := hk276.2; omega⟩)) (fun K2 hK2 => kr K2 (⟨by have := hK2.1; have := hk276.1; omega, by have := hK2.2; have := hk276.2; omega⟩)) h)
                                      · replace h := sw_ifN hb284 h
                                        refine ga_ceqN (t := 939) qd187_934 e283 hb284 rfl ?_
                                        refine go_s qd187_937 rfl ?_
                                        exact ga_rb (u := ()) qd187_938 qr187 (by decide) (kr _ ⟨by have := hk276.1; omega, by have := hk276.2; omega⟩ _ (sw_sj h).symm)
                                    · replace h := sw_ifN hb270 h
                                      by_cases hb292 : ((sw_xs G l4) % 32) = 16
                                      · replace h := sw_ifY hb292 h
                                        refine ga_sw (t := 959) qd187_39 rfl hb292 rfl ?_
                                        refine go_l qd187_959 rfl ?_
                                        refine go_l qd187_960 rfl ?_
                                        refine go_l qd187_961 rfl ?_
                                        refine go_s qd187_963 rfl ?_
                                        refine ga_iadd qd187_964 ?_
                                        obtain ⟨_u, e293, h⟩ := sw_bind h
                                        refine ga_ldG qd187_965 hG.2.1 hG.1 e293 ?_
                                        refine go_l qd187_966 rfl ?_
                                        obtain ⟨r295, e294, h⟩ := sw_bind h
                                        refine ga_kS (as := [.ref (z + 0), .int (Int32.ofInt (sw_xs G (l4 + 1))), .ref (z + 228)]) (rest := []) qd187_967 qk187_135 rfl rfl (Nat.le_of_ble_eq_true rfl) (Nat.le_of_ble_eq_true rfl) rfl (A182 hn ho e294 (fun K296 hk297 => sw_bkv ?_))
                                        refine go_l (L' := [some (.ref G.1), some (.ref (z + 0)), some (.ref (z + 221)), some (.ref (z + 228)), some (.int (Int32.ofInt l4)), some (.int (Int32.ofInt r295.1)), none, none, none]) (st' := []) qd187_970 rfl ?_
                                        refine go_l qd187_972 rfl ?_
                                        refine go_l qd187_973 rfl ?_
                                        refine go_l qd187_974 rfl ?_
                                        refine go_s qd187_976 rfl ?_
                                        refine ga_iadd qd187_977 ?_
                                        obtain ⟨_u, e298, h⟩ := sw_bind h
                                        refine ga_ldG qd187_978 hG.2.1 hG.1 e298 ?_
                                        obtain ⟨r300, e299, h⟩ := sw_bind h
                                        refine ga_kv (a := 221) (as := [.int (Int32.ofInt (sw_xs G (l4 + 1)))]) (rest := []) qd187_979 qk187_137 (sw_sl hn (by decide)) rfl rfl rfl (Nat.le_of_ble_eq_true rfl) (Nat.le_of_ble_eq_true rfl) rfl (A152 hn e299 (sw_bkv ?_))
                                        refine go_l (L' := [some (.ref G.1), some (.ref (z + 0)), some (.ref (z + 221)), some (.ref (z + 228)), some (.int (Int32.ofInt l4)), some (.int (Int32.ofInt r295.1)), some (.int (Int32.ofInt r300.1)), none, none]) (st' := []) qd187_982 rfl ?_
                                        refine go_l qd187_984 rfl ?_
                                        obtain ⟨r302, e301, h⟩ := sw_bind h
                                        refine ga_kv (a := 221) (as := []) (rest := []) qd187_985 qk187_82 (sw_sl hn (by decide)) rfl rfl rfl (Nat.le_of_ble_eq_true rfl) (Nat.le_of_ble_eq_true rfl) rfl (A95 hn e301 (sw_bkv ?_))
                                        refine go_l qd187_988 rfl ?_
                                        obtain ⟨_u, e303, h⟩ := sw_bind h
                                        by_cases hb304 : r302 = r295.1
                                        · replace h := sw_ifY hb304 h
                                          refine ga_ceqY (t := 995) qd187_990 e303 hb304 rfl ?_
                                          refine go_l qd187_995 rfl ?_
                                          obtain ⟨_u, e305, h⟩ := sw_bind h
                                          by_cases hb306 : r295.1 = 0
                                          · replace h := sw_ifY hb306 h
                                            refine ga_zneY (t := 1012) qd187_997 e305 hb306 rfl ?_
                                            refine go_l qd187_1000 rfl ?_
                                            refine go_s qd187_1001 rfl ?_
                                            obtain ⟨v308, e307, h⟩ := sw_bind h
                                            refine ga_lald qd187_1002 ho e307 ?_
                                            refine go_l qd187_1003 rfl ?_
                                            obtain ⟨_u, e309, h⟩ := sw_bind h
                                            refine ga_i2l qd187_1005 e309 ?_
                                            by_cases hb311 : v308 = r300.1
                                            · replace h := sw_ifY hb311 h
                                              refine ga_lceY (t := 1012) qd187_1006 hb311 qd187_1007 rfl ?_
                                              refine ga_jp (t := 1375) qd187_1012 rfl ?_
                                              refine ga_ii (L' := [some (.ref G.1), some (.ref (z + 0)), some (.ref (z + 221)), some (.ref (z + 228)), some (.int (Int32.ofInt (l4 + 3))), some (.int (Int32.ofInt r295.1)), some (.int (Int32.ofInt r300.1)), none, none]) qd187_1375 rfl rfl ?_
                                              refine ga_jp (t := 23) qd187_1378 rfl ?_
                                              exact sq_weak (L := [some (.ref G.1), some (.ref (z + 0)), some (.ref (z + 221)), some (.ref (z + 228)), some (.int (Int32.ofInt (l4 + 3))), none, none, none, none]) ⟨rfl, rfl, rfl, rfl, rfl, trivial⟩ (ih r300.2 (l4 + 3) K296 (fun K2 hK2 => kk K2 (⟨by have := hK2.1; have := hk297.1; omega, by have := hK2.2; have := hk297.2; omega⟩)) (fun K2 hK2 => kr K2 (⟨by have := hK2.1; have := hk297.1; omega, by have := hK2.2; have := hk297.2; omega⟩)) h)
                                            · replace h := sw_ifN hb311 h
                                              obtain ⟨_u, e310, h⟩ := sw_bind h
                                              refine ga_lceN (t := 1012) qd187_1006 e310 hb311 qd187_1007 rfl ?_
                                              refine go_s qd187_1010 rfl ?_
                                              exact ga_rb (u := ()) qd187_1011 qr187 (by decide) (kr _ ⟨by have := hk297.1; omega, by have := hk297.2; omega⟩ _ (sw_sj h).symm)
                                          · replace h := sw_ifN hb306 h
                                            refine ga_zneN (t := 1012) qd187_997 e305 hb306 rfl ?_
                                            refine ga_jp (t := 1375) qd187_1012 rfl ?_
                                            refine ga_ii (L' := [some (.ref G.1), some (.ref (z + 0)), some (.ref (z + 221)), some (.ref (z + 228)), some (.int (Int32.ofInt (l4 + 3))), some (.int (Int32.ofInt r295.1)), some (.int (Int32.ofInt r300.1)), none, none]) qd187_1375 rfl rfl ?_
                                            refine ga_jp (t := 23) qd187_1378 rfl ?_
                                            exact sq_weak (L := [some (.ref G.1), some (.ref (z + 0)), some (.ref (z + 221)), some (.ref (z + 228)), some (.int (Int32.ofInt (l4 + 3))), none, none, none, none]) ⟨rfl, rfl, rfl, rfl, rfl, trivial⟩ (ih r300.2 (l4 + 3) K296 (fun K2 hK2 => kk K2 (⟨by have := hK2.1; have := hk297.1; omega, by have := hK2.2; have := hk297.2; omega⟩)) (fun K2 hK2 => kr K2 (⟨by have := hK2.1; have := hk297.1; omega, by have := hK2.2; have := hk297.2; omega⟩)) h)
                                        · replace h := sw_ifN hb304 h
                                          refine ga_ceqN (t := 995) qd187_990 e303 hb304 rfl ?_
                                          refine go_s qd187_993 rfl ?_
                                          exact ga_rb (u := ()) qd187_994 qr187 (by decide) (kr _ ⟨by have := hk297.1; omega, by have := hk297.2; omega⟩ _ (sw_sj h).symm)
                                      · replace h := sw_ifN hb292 h
                                        by_cases hb312 : ((sw_xs G l4) % 32) = 17
                                        · replace h := sw_ifY hb312 h
                                          refine ga_sw (t := 1015) qd187_39 rfl hb312 rfl ?_
                                          refine go_l qd187_1015 rfl ?_
                                          refine go_l qd187_1016 rfl ?_
                                          refine go_l qd187_1017 rfl ?_
                                          refine go_s qd187_1019 rfl ?_
                                          refine ga_iadd qd187_1020 ?_
                                          obtain ⟨_u, e313, h⟩ := sw_bind h
                                          refine ga_ldG qd187_1021 hG.2.1 hG.1 e313 ?_
                                          refine go_l qd187_1022 rfl ?_
                                          obtain ⟨r315, e314, h⟩ := sw_bind h
                                          refine ga_kS (as := [.ref (z + 0), .int (Int32.ofInt (sw_xs G (l4 + 1))), .ref (z + 228)]) (rest := []) qd187_1023 qk187_138 rfl rfl (Nat.le_of_ble_eq_true rfl) (Nat.le_of_ble_eq_true rfl) rfl (A183 hn ho e314 (fun K316 hk317 => sw_bkv ?_))
                                          refine go_l (L' := [some (.ref G.1), some (.ref (z + 0)), some (.ref (z + 221)), some (.ref (z + 228)), some (.int (Int32.ofInt l4)), some (.int (Int32.ofInt r315.1)), none, none, none]) (st' := []) qd187_1026 rfl ?_
                                          refine go_l qd187_1028 rfl ?_
                                          refine go_l qd187_1029 rfl ?_
                                          refine go_l qd187_1030 rfl ?_
                                          refine go_s qd187_1032 rfl ?_
                                          refine ga_iadd qd187_1033 ?_
                                          obtain ⟨_u, e318, h⟩ := sw_bind h
                                          refine ga_ldG qd187_1034 hG.2.1 hG.1 e318 ?_
                                          obtain ⟨r320, e319, h⟩ := sw_bind h
                                          refine ga_kv (a := 221) (as := [.int (Int32.ofInt (sw_xs G (l4 + 1)))]) (rest := []) qd187_1035 qk187_140 (sw_sl hn (by decide)) rfl rfl rfl (Nat.le_of_ble_eq_true rfl) (Nat.le_of_ble_eq_true rfl) rfl (A153 hn e319 (sw_bkv ?_))
                                          refine go_l (L' := [some (.ref G.1), some (.ref (z + 0)), some (.ref (z + 221)), some (.ref (z + 228)), some (.int (Int32.ofInt l4)), some (.int (Int32.ofInt r315.1)), some (.int (Int32.ofInt r320.1)), none, none]) (st' := []) qd187_1038 rfl ?_
                                          refine go_l qd187_1040 rfl ?_
                                          obtain ⟨r322, e321, h⟩ := sw_bind h
                                          refine ga_kv (a := 221) (as := []) (rest := []) qd187_1041 qk187_82 (sw_sl hn (by decide)) rfl rfl rfl (Nat.le_of_ble_eq_true rfl) (Nat.le_of_ble_eq_true rfl) rfl (A95 hn e321 (sw_bkv ?_))
                                          refine go_l qd187_1044 rfl ?_
                                          obtain ⟨_u, e323, h⟩ := sw_bind h
                                          by_cases hb324 : r322 = r315.1
                                          · replace h := sw_ifY hb324 h
                                            refine ga_ceqY (t := 1051) qd187_1046 e323 hb324 rfl ?_
                                            refine go_l qd187_1051 rfl ?_
                                            obtain ⟨_u, e325, h⟩ := sw_bind h
                                            by_cases hb326 : r315.1 = 0
                                            · replace h := sw_ifY hb326 h
                                              refine ga_zneY (t := 1068) qd187_1053 e325 hb326 rfl ?_
                                              refine go_l qd187_1056 rfl ?_
                                              refine go_s qd187_1057 rfl ?_
                                              obtain ⟨v328, e327, h⟩ := sw_bind h
                                              refine ga_lald qd187_1058 ho e327 ?_
                                              refine go_l qd187_1059 rfl ?_
                                              obtain ⟨_u, e329, h⟩ := sw_bind h
                                              refine ga_i2l qd187_1061 e329 ?_
                                              by_cases hb331 : v328 = r320.1
                                              · replace h := sw_ifY hb331 h
                                                refine ga_lceY (t := 1068) qd187_1062 hb331 qd187_1063 rfl ?_
                                                refine ga_jp (t := 1375) qd187_1068 rfl ?_
                                                refine ga_ii (L' := [some (.ref G.1), some (.ref (z + 0)), some (.ref (z + 221)), some (.ref (z + 228)), some (.int (Int32.ofInt (l4 + 3))), some (.int (Int32.ofInt r315.1)), some (.int (Int32.ofInt r320.1)), none, none]) qd187_1375 rfl rfl ?_
                                                refine ga_jp (t := 23) qd187_1378 rfl ?_
                                                exact sq_weak (L := [some (.ref G.1), some (.ref (z + 0)), some (.ref (z + 221)), some (.ref (z + 228)), some (.int (Int32.ofInt (l4 + 3))), none, none, none, none]) ⟨rfl, rfl, rfl, rfl, rfl, trivial⟩ (ih r320.2 (l4 + 3) K316 (fun K2 hK2 => kk K2 (⟨by have := hK2.1; have := hk317.1; omega, by have := hK2.2; have := hk317.2; omega⟩)) (fun K2 hK2 => kr K2 (⟨by have := hK2.1; have := hk317.1; omega, by have := hK2.2; have := hk317.2; omega⟩)) h)
                                              · replace h := sw_ifN hb331 h
                                                obtain ⟨_u, e330, h⟩ := sw_bind h
                                                refine ga_lceN (t := 1068) qd187_1062 e330 hb331 qd187_1063 rfl ?_
                                                refine go_s qd187_1066 rfl ?_
                                                exact ga_rb (u := ()) qd187_1067 qr187 (by decide) (kr _ ⟨by have := hk317.1; omega, by have := hk317.2; omega⟩ _ (sw_sj h).symm)
                                            · replace h := sw_ifN hb326 h
                                              refine ga_zneN (t := 1068) qd187_1053 e325 hb326 rfl ?_
                                              refine ga_jp (t := 1375) qd187_1068 rfl ?_
                                              refine ga_ii (L' := [some (.ref G.1), some (.ref (z + 0)), some (.ref (z + 221)), some (.ref (z + 228)), some (.int (Int32.ofInt (l4 + 3))), some (.int (Int32.ofInt r315.1)), some (.int (Int32.ofInt r320.1)), none, none]) qd187_1375 rfl rfl ?_
                                              refine ga_jp (t := 23) qd187_1378 rfl ?_
                                              exact sq_weak (L := [some (.ref G.1), some (.ref (z + 0)), some (.ref (z + 221)), some (.ref (z + 228)), some (.int (Int32.ofInt (l4 + 3))), none, none, none, none]) ⟨rfl, rfl, rfl, rfl, rfl, trivial⟩ (ih r320.2 (l4 + 3) K316 (fun K2 hK2 => kk K2 (⟨by have := hK2.1; have := hk317.1; omega, by have := hK2.2; have := hk317.2; omega⟩)) (fun K2 hK2 => kr K2 (⟨by have := hK2.1; have := hk317.1; omega, by have := hK2.2; have := hk317.2; omega⟩)) h)
                                          · replace h := sw_ifN hb324 h
                                            refine ga_ceqN (t := 1051) qd187_1046 e323 hb324 rfl ?_
                                            refine go_s qd187_1049 rfl ?_
                                            exact ga_rb (u := ()) qd187_1050 qr187 (by decide) (kr _ ⟨by have := hk317.1; omega, by have := hk317.2; omega⟩ _ (sw_sj h).symm)
                                        · replace h := sw_ifN hb312 h
                                          by_cases hb332 : ((sw_xs G l4) % 32) = 18
                                          · replace h := sw_ifY hb332 h
                                            refine ga_sw (t := 1071) qd187_39 rfl hb332 rfl ?_
                                            refine go_l qd187_1071 rfl ?_
                                            refine go_l qd187_1072 rfl ?_
                                            refine go_l qd187_1073 rfl ?_
                                            refine go_s qd187_1075 rfl ?_
                                            refine ga_iadd qd187_1076 ?_
                                            obtain ⟨_u, e333, h⟩ := sw_bind h
                                            refine ga_ldG qd187_1077 hG.2.1 hG.1 e333 ?_
                                            refine go_l qd187_1078 rfl ?_
                                            obtain ⟨r335, e334, h⟩ := sw_bind h
                                            refine ga_kS (as := [.ref (z + 0), .int (Int32.ofInt (sw_xs G (l4 + 1))), .ref (z + 228)]) (rest := []) qd187_1079 qk187_141 rfl rfl (Nat.le_of_ble_eq_true rfl) (Nat.le_of_ble_eq_true rfl) rfl (A184 hn ho e334 (fun K336 hk337 => sw_bkv ?_))
                                            refine go_l (L' := [some (.ref G.1), some (.ref (z + 0)), some (.ref (z + 221)), some (.ref (z + 228)), some (.int (Int32.ofInt l4)), some (.int (Int32.ofInt r335.1)), none, none, none]) (st' := []) qd187_1082 rfl ?_
                                            refine go_l qd187_1084 rfl ?_
                                            refine go_l qd187_1085 rfl ?_
                                            refine go_l qd187_1086 rfl ?_
                                            refine go_s qd187_1088 rfl ?_
                                            refine ga_iadd qd187_1089 ?_
                                            obtain ⟨_u, e338, h⟩ := sw_bind h
                                            refine ga_ldG qd187_1090 hG.2.1 hG.1 e338 ?_
                                            obtain ⟨r340, e339, h⟩ := sw_bind h
                                            refine ga_kv (a := 221) (as := [.int (Int32.ofInt (sw_xs G (l4 + 1)))]) (rest := []) qd187_1091 qk187_143 (sw_sl hn (by decide)) rfl rfl rfl (Nat.le_of_ble_eq_true rfl) (Nat.le_of_ble_eq_true rfl) rfl (A154 hn e339 (sw_bkv ?_))
                                            refine go_l (L' := [some (.ref G.1), some (.ref (z + 0)), some (.ref (z + 221)), some (.ref (z + 228)), some (.int (Int32.ofInt l4)), some (.int (Int32.ofInt r335.1)), some (.int (Int32.ofInt r340.1)), none, none]) (st' := []) qd187_1094 rfl ?_
                                            refine go_l qd187_1096 rfl ?_
                                            obtain ⟨r342, e341, h⟩ := sw_bind h
                                            refine ga_kv (a := 221) (as := []) (rest := []) qd187_1097 qk187_82 (sw_sl hn (by decide)) rfl rfl rfl (Nat.le_of_ble_eq_true rfl) (Nat.le_of_ble_eq_true rfl) rfl (A95 hn e341 (sw_bkv ?_))
                                            refine go_l qd187_1100 rfl ?_
                                            obtain ⟨_u, e343, h⟩ := sw_bind h
                                            by_cases hb344 : r342 = r335.1
                                            · replace h := sw_ifY hb344 h
                                              refine ga_ceqY (t := 1107) qd187_1102 e343 hb344 rfl ?_
                                              refine go_l qd187_1107 rfl ?_
                                              obtain ⟨_u, e345, h⟩ := sw_bind h
                                              by_cases hb346 : r335.1 = 0
                                              · replace h := sw_ifY hb346 h
                                                refine ga_zneY (t := 1124) qd187_1109 e345 hb346 rfl ?_
                                                refine go_l qd187_1112 rfl ?_
                                                refine go_s qd187_1113 rfl ?_
                                                obtain ⟨v348, e347, h⟩ := sw_bind h
                                                refine ga_lald qd187_1114 ho e347 ?_
                                                refine go_l qd187_1115 rfl ?_
                                                obtain ⟨_u, e349, h⟩ := sw_bind h
                                                refine ga_i2l qd187_1117 e349 ?_
                                                by_cases hb351 : v348 = r340.1
                                                · replace h := sw_ifY hb351 h
                                                  refine ga_lceY (t := 1124) qd187_1118 hb351 qd187_1119 rfl ?_
                                                  refine ga_jp (t := 1375) qd187_1124 rfl ?_
                                                  refine ga_ii (L' := [some (.ref G.1), some (.ref (z + 0)), some (.ref (z + 221)), some (.ref (z + 228)), some (.int (Int32.ofInt (l4 + 3))), some (.int (Int32.ofInt r335.1)), some (.int (Int32.ofInt r340.1)), none, none]) qd187_1375 rfl rfl ?_
                                                  refine ga_jp (t := 23) qd187_1378 rfl ?_
                                                  exact sq_weak (L := [some (.ref G.1), some (.ref (z + 0)), some (.ref (z + 221)), some (.ref (z + 228)), some (.int (Int32.ofInt (l4 + 3))), none, none, none, none]) ⟨rfl, rfl, rfl, rfl, rfl, trivial⟩ (ih r340.2 (l4 + 3) K336 (fun K2 hK2 => kk K2 (⟨by have := hK2.1; have := hk337.1; omega, by have := hK2.2; have := hk337.2; omega⟩)) (fun K2 hK2 => kr K2 (⟨by have := hK2.1; have := hk337.1; omega, by have := hK2.2; have := hk337.2; omega⟩)) h)
                                                · replace h := sw_ifN hb351 h
                                                  obtain ⟨_u, e350, h⟩ := sw_bind h
                                                  refine ga_lceN (t := 1124) qd187_1118 e350 hb351 qd187_1119 rfl ?_
                                                  refine go_s qd187_1122 rfl ?_
                                                  exact ga_rb (u := ()) qd187_1123 qr187 (by decide) (kr _ ⟨by have := hk337.1; omega, by have := hk337.2; omega⟩ _ (sw_sj h).symm)
                                              · replace h := sw_ifN hb346 h
                                                refine ga_zneN (t := 1124) qd187_1109 e345 hb346 rfl ?_
                                                refine ga_jp (t := 1375) qd187_1124 rfl ?_
                                                refine ga_ii (L' := [some (.ref G.1), some (.ref (z + 0)), some (.ref (z + 221)), some (.ref (z + 228)), some (.int (Int32.ofInt (l4 + 3))), some (.int (Int32.ofInt r335.1)), some (.int (Int32.ofInt r340.1)), none, none]) qd187_1375 rfl rfl ?_
                                                refine ga_jp (t := 23) qd187_1378 rfl ?_
                                                exact sq_weak (L := [some (.ref G.1), some (.ref (z + 0)), some (.ref (z + 221)), some (.ref (z + 228)), some (.int (Int32.ofInt (l4 + 3))), none, none, none, none]) ⟨rfl, rfl, rfl, rfl, rfl, trivial⟩ (ih r340.2 (l4 + 3) K336 (fun K2 hK2 => kk K2 (⟨by have := hK2.1; have := hk337.1; omega, by have := hK2.2; have := hk337.2; omega⟩)) (fun K2 hK2 => kr K2 (⟨by have := hK2.1; have := hk337.1; omega, by have := hK2.2; have := hk337.2; omega⟩)) h)
                                            · replace h := sw_ifN hb344 h
                                              refine ga_ceqN (t := 1107) qd187_1102 e343 hb344 rfl ?_
                                              refine go_s qd187_1105 rfl ?_
                                              exact ga_rb (u := ()) qd187_1106 qr187 (by decide) (kr _ ⟨by have := hk337.1; omega, by have := hk337.2; omega⟩ _ (sw_sj h).symm)
                                          · replace h := sw_ifN hb332 h
                                            by_cases hb352 : ((sw_xs G l4) % 32) = 19
                                            · replace h := sw_ifY hb352 h
                                              refine ga_sw (t := 1127) qd187_39 rfl hb352 rfl ?_
                                              refine go_l qd187_1127 rfl ?_
                                              obtain ⟨r354, e353, h⟩ := sw_bind h
                                              refine ga_kv (a := 0) (as := []) (rest := []) qd187_1128 qk187_144 (sw_sl hn (by decide)) rfl rfl rfl (Nat.le_of_ble_eq_true rfl) (Nat.le_of_ble_eq_true rfl) rfl (A78 hn e353 (sw_bkv ?_))
                                              refine go_l qd187_1131 rfl ?_
                                              obtain ⟨r356, e355, h⟩ := sw_bind h
                                              refine ga_kv (a := 221) (as := []) (rest := [.int (Int32.ofInt r354.1)]) qd187_1132 qk187_147 (sw_sl hn (by decide)) rfl rfl rfl (Nat.le_of_ble_eq_true rfl) (Nat.le_of_ble_eq_true rfl) rfl (A157 hn e355 (sw_bkv ?_))
                                              obtain ⟨_u, e357, h⟩ := sw_bind h
                                              by_cases hb358 : r354.1 = r356.1
                                              · replace h := sw_ifY hb358 h
                                                refine ga_ceqY (t := 1375) qd187_1135 e357 hb358 rfl ?_
                                                refine ga_ii (L' := [some (.ref G.1), some (.ref (z + 0)), some (.ref (z + 221)), some (.ref (z + 228)), some (.int (Int32.ofInt (l4 + 3))), none, none, none, none]) qd187_1375 rfl rfl ?_
                                                refine ga_jp (t := 23) qd187_1378 rfl ?_
                                                exact sq_weak (L := [some (.ref G.1), some (.ref (z + 0)), some (.ref (z + 221)), some (.ref (z + 228)), some (.int (Int32.ofInt (l4 + 3))), none, none, none, none]) ⟨rfl, rfl, rfl, rfl, rfl, trivial⟩ (ih r356.2 (l4 + 3) K (fun K2 hK2 => kk K2 (⟨by have := hK2.1; omega, by have := hK2.2; omega⟩)) (fun K2 hK2 => kr K2 (⟨by have := hK2.1; omega, by have := hK2.2; omega⟩)) h)
                                              · replace h := sw_ifN hb358 h
                                                refine ga_ceqN (t := 1375) qd187_1135 e357 hb358 rfl ?_
                                                refine go_s qd187_1138 rfl ?_
                                                exact ga_rb (u := ()) qd187_1139 qr187 (by decide) (kr _ ⟨by omega, by omega⟩ _ (sw_sj h).symm)
                                            · replace h := sw_ifN hb352 h
                                              by_cases hb359 : ((sw_xs G l4) % 32) = 20
                                              · replace h := sw_ifY hb359 h
                                                refine ga_sw (t := 1140) qd187_39 rfl hb359 rfl ?_
                                                refine go_l qd187_1140 rfl ?_
                                                obtain ⟨r361, e360, h⟩ := sw_bind h
                                                refine ga_kv (a := 0) (as := []) (rest := []) qd187_1141 qk187_148 (sw_sl hn (by decide)) rfl rfl rfl (Nat.le_of_ble_eq_true rfl) (Nat.le_of_ble_eq_true rfl) rfl (A79 hn e360 (sw_bkv ?_))
                                                refine go_l qd187_1144 rfl ?_
                                                obtain ⟨r363, e362, h⟩ := sw_bind h
                                                refine ga_kv (a := 221) (as := []) (rest := [.int (Int32.ofInt r361.1)]) qd187_1145 qk187_151 (sw_sl hn (by decide)) rfl rfl rfl (Nat.le_of_ble_eq_true rfl) (Nat.le_of_ble_eq_true rfl) rfl (A158 hn e362 (sw_bkv ?_))
                                                obtain ⟨_u, e364, h⟩ := sw_bind h
                                                by_cases hb365 : r361.1 = r363.1
                                                · replace h := sw_ifY hb365 h
                                                  refine ga_ceqY (t := 1375) qd187_1148 e364 hb365 rfl ?_
                                                  refine ga_ii (L' := [some (.ref G.1), some (.ref (z + 0)), some (.ref (z + 221)), some (.ref (z + 228)), some (.int (Int32.ofInt (l4 + 3))), none, none, none, none]) qd187_1375 rfl rfl ?_
                                                  refine ga_jp (t := 23) qd187_1378 rfl ?_
                                                  exact sq_weak (L := [some (.ref G.1), some (.ref (z + 0)), some (.ref (z + 221)), some (.ref (z + 228)), some (.int (Int32.ofInt (l4 + 3))), none, none, none, none]) ⟨rfl, rfl, rfl, rfl, rfl, trivial⟩ (ih r363.2 (l4 + 3) K (fun K2 hK2 => kk K2 (⟨by have := hK2.1; omega, by have := hK2.2; omega⟩)) (fun K2 hK2 => kr K2 (⟨by have := hK2.1; omega, by have := hK2.2; omega⟩)) h)
                                                · replace h := sw_ifN hb365 h
                                                  refine ga_ceqN (t := 1375) qd187_1148 e364 hb365 rfl ?_
                                                  refine go_s qd187_1151 rfl ?_
                                                  exact ga_rb (u := ()) qd187_1152 qr187 (by decide) (kr _ ⟨by omega, by omega⟩ _ (sw_sj h).symm)
                                              · replace h := sw_ifN hb359 h
                                                by_cases hb366 : ((sw_xs G l4) % 32) = 21
                                                · replace h := sw_ifY hb366 h
                                                  refine ga_sw (t := 1153) qd187_39 rfl hb366 rfl ?_
                                                  refine go_l qd187_1153 rfl ?_
                                                  refine go_l qd187_1154 rfl ?_
                                                  refine go_l qd187_1155 rfl ?_
                                                  refine go_s qd187_1157 rfl ?_
                                                  refine ga_iadd qd187_1158 ?_
                                                  obtain ⟨_u, e367, h⟩ := sw_bind h
                                                  refine ga_ldG qd187_1159 hG.2.1 hG.1 e367 ?_
                                                  refine go_l qd187_1160 rfl ?_
                                                  obtain ⟨r369, e368, h⟩ := sw_bind h
                                                  refine ga_kS (as := [.ref (z + 0), .int (Int32.ofInt (sw_xs G (l4 + 1))), .ref (z + 228)]) (rest := []) qd187_1161 qk187_152 rfl rfl (Nat.le_of_ble_eq_true rfl) (Nat.le_of_ble_eq_true rfl) rfl (A185 hn ho e368 (fun K370 hk371 => sw_bkv ?_))
                                                  refine go_l (L' := [some (.ref G.1), some (.ref (z + 0)), some (.ref (z + 221)), some (.ref (z + 228)), some (.int (Int32.ofInt l4)), some (.int (Int32.ofInt r369.1)), none, none, none]) (st' := []) qd187_1164 rfl ?_
                                                  refine go_l qd187_1166 rfl ?_
                                                  refine go_l qd187_1167 rfl ?_
                                                  refine go_l qd187_1168 rfl ?_
                                                  refine go_s qd187_1170 rfl ?_
                                                  refine ga_iadd qd187_1171 ?_
                                                  obtain ⟨_u, e372, h⟩ := sw_bind h
                                                  refine ga_ldG qd187_1172 hG.2.1 hG.1 e372 ?_
                                                  obtain ⟨r374, e373, h⟩ := sw_bind h
                                                  refine ga_kv (a := 221) (as := [.int (Int32.ofInt (sw_xs G (l4 + 1)))]) (rest := []) qd187_1173 qk187_154 (sw_sl hn (by decide)) rfl rfl rfl (Nat.le_of_ble_eq_true rfl) (Nat.le_of_ble_eq_true rfl) rfl (A159 hn e373 (sw_bkv ?_))
                                                  refine go_l (L' := [some (.ref G.1), some (.ref (z + 0)), some (.ref (z + 221)), some (.ref (z + 228)), some (.int (Int32.ofInt l4)), some (.int (Int32.ofInt r369.1)), some (.int (Int32.ofInt r374.1)), none, none]) (st' := []) qd187_1176 rfl ?_
                                                  refine go_l qd187_1178 rfl ?_
                                                  obtain ⟨r376, e375, h⟩ := sw_bind h
                                                  refine ga_kv (a := 221) (as := []) (rest := []) qd187_1179 qk187_82 (sw_sl hn (by decide)) rfl rfl rfl (Nat.le_of_ble_eq_true rfl) (Nat.le_of_ble_eq_true rfl) rfl (A95 hn e375 (sw_bkv ?_))
                                                  refine go_l qd187_1182 rfl ?_
                                                  obtain ⟨_u, e377, h⟩ := sw_bind h
                                                  by_cases hb378 : r376 = r369.1
                                                  · replace h := sw_ifY hb378 h
                                                    refine ga_ceqY (t := 1189) qd187_1184 e377 hb378 rfl ?_
                                                    refine go_l qd187_1189 rfl ?_
                                                    obtain ⟨_u, e379, h⟩ := sw_bind h
                                                    by_cases hb380 : r369.1 = 0
                                                    · replace h := sw_ifY hb380 h
                                                      refine ga_zneY (t := 1206) qd187_1191 e379 hb380 rfl ?_
                                                      refine go_l qd187_1194 rfl ?_
                                                      refine go_s qd187_1195 rfl ?_
                                                      obtain ⟨v382, e381, h⟩ := sw_bind h
                                                      refine ga_lald qd187_1196 ho e381 ?_
                                                      refine go_l qd187_1197 rfl ?_
                                                      obtain ⟨_u, e383, h⟩ := sw_bind h
                                                      refine ga_i2l qd187_1199 e383 ?_
                                                      by_cases hb385 : v382 = r374.1
                                                      · replace h := sw_ifY hb385 h
                                                        refine ga_lceY (t := 1206) qd187_1200 hb385 qd187_1201 rfl ?_
                                                        refine ga_jp (t := 1375) qd187_1206 rfl ?_
                                                        refine ga_ii (L' := [some (.ref G.1), some (.ref (z + 0)), some (.ref (z + 221)), some (.ref (z + 228)), some (.int (Int32.ofInt (l4 + 3))), some (.int (Int32.ofInt r369.1)), some (.int (Int32.ofInt r374.1)), none, none]) qd187_1375 rfl rfl ?_
                                                        refine ga_jp (t := 23) qd187_1378 rfl ?_
                                                        exact sq_weak (L := [some (.ref G.1), some (.ref (z + 0)), some (.ref (z + 221)), some (.ref (z + 228)), some (.int (Int32.ofInt (l4 + 3))), none, none, none, none]) ⟨rfl, rfl, rfl, rfl, rfl, trivial⟩ (ih r374.2 (l4 + 3) K370 (fun K2 hK2 => kk K2 (⟨by have := hK2.1; have := hk371.1; omega, by have := hK2.2; have := hk371.2; omega⟩)) (fun K2 hK2 => kr K2 (⟨by have := hK2.1; have := hk371.1; omega, by have := hK2.2; have := hk371.2; omega⟩)) h)
                                                      · replace h := sw_ifN hb385 h
                                                        obtain ⟨_u, e384, h⟩ := sw_bind h
                                                        refine ga_lceN (t := 1206) qd187_1200 e384 hb385 qd187_1201 rfl ?_
                                                        refine go_s qd187_1204 rfl ?_
                                                        exact ga_rb (u := ()) qd187_1205 qr187 (by decide) (kr _ ⟨by have := hk371.1; omega, by have := hk371.2; omega⟩ _ (sw_sj h).symm)
                                                    · replace h := sw_ifN hb380 h
                                                      refine ga_zneN (t := 1206) qd187_1191 e379 hb380 rfl ?_
                                                      refine ga_jp (t := 1375) qd187_1206 rfl ?_
                                                      refine ga_ii (L' := [some (.ref G.1), some (.ref (z + 0)), some (.ref (z + 221)), some (.ref (z + 228)), some (.int (Int32.ofInt (l4 + 3))), some (.int (Int32.ofInt r369.1)), some (.int (Int32.ofInt r374.1)), none, none]) qd187_1375 rfl rfl ?_
                                                      refine ga_jp (t := 23) qd187_1378 rfl ?_
                                                      exact sq_weak (L := [some (.ref G.1), some (.ref (z + 0)), some (.ref (z + 221)), some (.ref (z + 228)), some (.int (Int32.ofInt (l4 + 3))), none, none, none, none]) ⟨rfl, rfl, rfl, rfl, rfl, trivial⟩ (ih r374.2 (l4 + 3) K370 (fun K2 hK2 => kk K2 (⟨by have := hK2.1; have := hk371.1; omega, by have := hK2.2; have := hk371.2; omega⟩)) (fun K2 hK2 => kr K2 (⟨by have := hK2.1; have := hk371.1; omega, by have := hK2.2; have := hk371.2; omega⟩)) h)
                                                  · replace h := sw_ifN hb378 h
                                                    refine ga_ceqN (t := 1189) qd187_1184 e377 hb378 rfl ?_
                                                    refine go_s qd187_1187 rfl ?_
                                                    exact ga_rb (u := ()) qd187_1188 qr187 (by decide) (kr _ ⟨by have := hk371.1; omega, by have := hk371.2; omega⟩ _ (sw_sj h).symm)
                                                · replace h := sw_ifN hb366 h
                                                  by_cases hb386 : ((sw_xs G l4) % 32) = 22
                                                  · replace h := sw_ifY hb386 h
                                                    refine ga_sw (t := 1209) qd187_39 rfl hb386 rfl ?_
                                                    refine go_l qd187_1209 rfl ?_
                                                    refine go_l qd187_1210 rfl ?_
                                                    refine go_l qd187_1211 rfl ?_
                                                    refine go_s qd187_1213 rfl ?_
                                                    refine ga_iadd qd187_1214 ?_
                                                    obtain ⟨_u, e387, h⟩ := sw_bind h
                                                    refine ga_ldG qd187_1215 hG.2.1 hG.1 e387 ?_
                                                    refine go_l qd187_1216 rfl ?_
                                                    refine go_l qd187_1217 rfl ?_
                                                    refine go_s qd187_1219 rfl ?_
                                                    refine ga_iadd qd187_1220 ?_
                                                    obtain ⟨_u, e388, h⟩ := sw_bind h
                                                    refine ga_ldG qd187_1221 hG.2.1 hG.1 e388 ?_
                                                    refine go_l qd187_1222 rfl ?_
                                                    obtain ⟨r390, e389, h⟩ := sw_bind h
                                                    refine ga_kS (as := [.ref (z + 0), .int (Int32.ofInt (sw_xs G (l4 + 1))), .int (Int32.ofInt (sw_xs G (l4 + 2))), .ref (z + 228)]) (rest := []) qd187_1223 qk187_155 rfl rfl (Nat.le_of_ble_eq_true rfl) (Nat.le_of_ble_eq_true rfl) rfl (A186 hn ho e389 (fun K391 hk392 => sw_bkv ?_))
                                                    refine go_l (L' := [some (.ref G.1), some (.ref (z + 0)), some (.ref (z + 221)), some (.ref (z + 228)), some (.int (Int32.ofInt l4)), some (.int (Int32.ofInt r390.1)), none, none, none]) (st' := []) qd187_1226 rfl ?_
                                                    refine go_l qd187_1228 rfl ?_
                                                    refine go_l qd187_1229 rfl ?_
                                                    refine go_l qd187_1230 rfl ?_
                                                    refine go_s qd187_1232 rfl ?_
                                                    refine ga_iadd qd187_1233 ?_
                                                    obtain ⟨_u, e393, h⟩ := sw_bind h
                                                    refine ga_ldG qd187_1234 hG.2.1 hG.1 e393 ?_
                                                    refine go_l qd187_1235 rfl ?_
                                                    refine go_l qd187_1236 rfl ?_
                                                    refine go_s qd187_1238 rfl ?_
                                                    refine ga_iadd qd187_1239 ?_
                                                    obtain ⟨_u, e394, h⟩ := sw_bind h
                                                    refine ga_ldG qd187_1240 hG.2.1 hG.1 e394 ?_
                                                    obtain ⟨r396, e395, h⟩ := sw_bind h
                                                    refine ga_kv (a := 221) (as := [.int (Int32.ofInt (sw_xs G (l4 + 1))), .int (Int32.ofInt (sw_xs G (l4 + 2)))]) (rest := []) qd187_1241 qk187_157 (sw_sl hn (by decide)) rfl rfl rfl (Nat.le_of_ble_eq_true rfl) (Nat.le_of_ble_eq_true rfl) rfl (A161 hn e395 (sw_bkv ?_))
                                                    refine go_l (L' := [some (.ref G.1), some (.ref (z + 0)), some (.ref (z + 221)), some (.ref (z + 228)), some (.int (Int32.ofInt l4)), some (.int (Int32.ofInt r390.1)), some (.int (Int32.ofInt r396.1)), none, none]) (st' := []) qd187_1244 rfl ?_
                                                    refine go_l qd187_1246 rfl ?_
                                                    obtain ⟨r398, e397, h⟩ := sw_bind h
                                                    refine ga_kv (a := 221) (as := []) (rest := []) qd187_1247 qk187_82 (sw_sl hn (by decide)) rfl rfl rfl (Nat.le_of_ble_eq_true rfl) (Nat.le_of_ble_eq_true rfl) rfl (A95 hn e397 (sw_bkv ?_))
                                                    refine go_l qd187_1250 rfl ?_
                                                    obtain ⟨_u, e399, h⟩ := sw_bind h
                                                    by_cases hb400 : r398 = r390.1
                                                    · replace h := sw_ifY hb400 h
                                                      refine ga_ceqY (t := 1257) qd187_1252 e399 hb400 rfl ?_
                                                      refine go_l qd187_1257 rfl ?_
                                                      obtain ⟨_u, e401, h⟩ := sw_bind h
                                                      by_cases hb402 : r390.1 = 0
                                                      · replace h := sw_ifY hb402 h
                                                        refine ga_zneY (t := 1274) qd187_1259 e401 hb402 rfl ?_
                                                        refine go_l qd187_1262 rfl ?_
                                                        refine go_s qd187_1263 rfl ?_
                                                        obtain ⟨v404, e403, h⟩ := sw_bind h
                                                        refine ga_lald qd187_1264 ho e403 ?_
                                                        refine go_l qd187_1265 rfl ?_
                                                        obtain ⟨_u, e405, h⟩ := sw_bind h
                                                        refine ga_i2l qd187_1267 e405 ?_
                                                        by_cases hb407 : v404 = r396.1
                                                        · replace h := sw_ifY hb407 h
                                                          refine ga_lceY (t := 1274) qd187_1268 hb407 qd187_1269 rfl ?_
                                                          refine ga_jp (t := 1375) qd187_1274 rfl ?_
                                                          refine ga_ii (L' := [some (.ref G.1), some (.ref (z + 0)), some (.ref (z + 221)), some (.ref (z + 228)), some (.int (Int32.ofInt (l4 + 3))), some (.int (Int32.ofInt r390.1)), some (.int (Int32.ofInt r396.1)), none, none]) qd187_1375 rfl rfl ?_
                                                          refine ga_jp (t := 23) qd187_1378 rfl ?_
                                                          exact sq_weak (L := [some (.ref G.1), some (.ref (z + 0)), some (.ref (z + 221)), some (.ref (z + 228)), some (.int (Int32.ofInt (l4 + 3))), none, none, none, none]) ⟨rfl, rfl, rfl, rfl, rfl, trivial⟩ (ih r396.2 (l4 + 3) K391 (fun K2 hK2 => kk K2 (⟨by have := hK2.1; have := hk392.1; omega, by have := hK2.2; have := hk392.2; omega⟩)) (fun K2 hK2 => kr K2 (⟨by have := hK2.1; have := hk392.1; omega, by have := hK2.2; have := hk392.2; omega⟩)) h)
                                                        · replace h := sw_ifN hb407 h
                                                          obtain ⟨_u, e406, h⟩ := sw_bind h
                                                          refine ga_lceN (t := 1274) qd187_1268 e406 hb407 qd187_1269 rfl ?_
                                                          refine go_s qd187_1272 rfl ?_
                                                          exact ga_rb (u := ()) qd187_1273 qr187 (by decide) (kr _ ⟨by have := hk392.1; omega, by have := hk392.2; omega⟩ _ (sw_sj h).symm)
                                                      · replace h := sw_ifN hb402 h
                                                        refine ga_zneN (t := 1274) qd187_1259 e401 hb402 rfl ?_
                                                        refine ga_jp (t := 1375) qd187_1274 rfl ?_
                                                        refine ga_ii (L' := [some (.ref G.1), some (.ref (z + 0)), some (.ref (z + 221)), some (.ref (z + 228)), some (.int (Int32.ofInt (l4 + 3))), some (.int (Int32.ofInt r390.1)), some (.int (Int32.ofInt r396.1)), none, none]) qd187_1375 rfl rfl ?_
                                                        refine ga_jp (t := 23) qd187_1378 rfl ?_
                                                        exact sq_weak (L := [some (.ref G.1), some (.ref (z + 0)), some (.ref (z + 221)), some (.ref (z + 228)), some (.int (Int32.ofInt (l4 + 3))), none, none, none, none]) ⟨rfl, rfl, rfl, rfl, rfl, trivial⟩ (ih r396.2 (l4 + 3) K391 (fun K2 hK2 => kk K2 (⟨by have := hK2.1; have := hk392.1; omega, by have := hK2.2; have := hk392.2; omega⟩)) (fun K2 hK2 => kr K2 (⟨by have := hK2.1; have := hk392.1; omega, by have := hK2.2; have := hk392.2; omega⟩)) h)
                                                    · replace h := sw_ifN hb400 h
                                                      refine ga_ceqN (t := 1257) qd187_1252 e399 hb400 rfl ?_
                                                      refine go_s qd187_1255 rfl ?_
                                                      exact ga_rb (u := ()) qd187_1256 qr187 (by decide) (kr _ ⟨by have := hk392.1; omega, by have := hk392.2; omega⟩ _ (sw_sj h).symm)
                                                  · replace h := sw_ifN hb386 h
                                                    by_cases hb408 : ((sw_xs G l4) % 32) = 23
                                                    · replace h := sw_ifY hb408 h
                                                      refine ga_sw (t := 1277) qd187_39 rfl hb408 rfl ?_
                                                      refine go_l qd187_1277 rfl ?_
                                                      obtain ⟨r410, e409, h⟩ := sw_bind h
                                                      refine ga_kv (a := 0) (as := []) (rest := []) qd187_1278 qk187_158 (sw_sl hn (by decide)) rfl rfl rfl (Nat.le_of_ble_eq_true rfl) (Nat.le_of_ble_eq_true rfl) rfl (A82 hn e409 (sw_bkv ?_))
                                                      refine go_l (L' := [some (.ref G.1), some (.ref (z + 0)), some (.ref (z + 221)), some (.ref (z + 228)), some (.int (Int32.ofInt l4)), some (.double r410), none, none, none]) (st' := []) qd187_1281 rfl ?_
                                                      refine go_l qd187_1283 rfl ?_
                                                      obtain ⟨r412, e411, h⟩ := sw_bind h
                                                      refine ga_kv (a := 221) (as := []) (rest := []) qd187_1284 qk187_162 (sw_sl hn (by decide)) rfl rfl rfl (Nat.le_of_ble_eq_true rfl) (Nat.le_of_ble_eq_true rfl) rfl (A163 hn e411 (sw_bkv ?_))
                                                      refine go_l (L' := [some (.ref G.1), some (.ref (z + 0)), some (.ref (z + 221)), some (.ref (z + 228)), some (.int (Int32.ofInt l4)), some (.double r410), none, some (.double r412.1), none]) (st' := []) qd187_1287 rfl ?_
                                                      refine go_l qd187_1289 rfl ?_
                                                      refine go_l qd187_1291 rfl ?_
                                                      refine ga_dcmp qd187_1293 ?_
                                                      obtain ⟨_u, e413, h⟩ := sw_bind h
                                                      by_cases hb414 : ((Op.cmpValue (FP.dcmp r410 r412.1) .l).toInt) = 0
                                                      · replace h := sw_ifY hb414 h
                                                        refine ga_zeqY (t := 1315) qd187_1294 e413 hb414 rfl ?_
                                                        refine ga_jp (t := 1375) qd187_1315 rfl ?_
                                                        refine ga_ii (L' := [some (.ref G.1), some (.ref (z + 0)), some (.ref (z + 221)), some (.ref (z + 228)), some (.int (Int32.ofInt (l4 + 3))), some (.double r410), none, some (.double r412.1), none]) qd187_1375 rfl rfl ?_
                                                        refine ga_jp (t := 23) qd187_1378 rfl ?_
                                                        exact sq_weak (L := [some (.ref G.1), some (.ref (z + 0)), some (.ref (z + 221)), some (.ref (z + 228)), some (.int (Int32.ofInt (l4 + 3))), none, none, none, none]) ⟨rfl, rfl, rfl, rfl, rfl, trivial⟩ (ih r412.2 (l4 + 3) K (fun K2 hK2 => kk K2 (⟨by have := hK2.1; omega, by have := hK2.2; omega⟩)) (fun K2 hK2 => kr K2 (⟨by have := hK2.1; omega, by have := hK2.2; omega⟩)) h)
                                                      · replace h := sw_ifN hb414 h
                                                        refine ga_zeqN (t := 1315) qd187_1294 e413 hb414 rfl ?_
                                                        refine go_l qd187_1297 rfl ?_
                                                        refine go_l qd187_1299 rfl ?_
                                                        refine ga_dcmp qd187_1301 ?_
                                                        obtain ⟨_u, e415, h⟩ := sw_bind h
                                                        by_cases hb416 : ((Op.cmpValue (FP.dcmp r410 r410) .l).toInt) = 0
                                                        · replace h := sw_ifY hb416 h
                                                          refine ga_zeqY (t := 1313) qd187_1302 e415 hb416 rfl ?_
                                                          refine go_s qd187_1313 rfl ?_
                                                          exact ga_rb (u := ()) qd187_1314 qr187 (by decide) (kr _ ⟨by omega, by omega⟩ _ (sw_sj h).symm)
                                                        · replace h := sw_ifN hb416 h
                                                          refine ga_zeqN (t := 1313) qd187_1302 e415 hb416 rfl ?_
                                                          refine go_l qd187_1305 rfl ?_
                                                          refine go_l qd187_1307 rfl ?_
                                                          refine ga_dcmp qd187_1309 ?_
                                                          obtain ⟨_u, e417, h⟩ := sw_bind h
                                                          by_cases hb418 : ((Op.cmpValue (FP.dcmp r412.1 r412.1) .l).toInt) = 0
                                                          · replace h := sw_ifY hb418 h
                                                            refine ga_zneY (t := 1315) qd187_1310 e417 hb418 rfl ?_
                                                            refine go_s qd187_1313 rfl ?_
                                                            exact ga_rb (u := ()) qd187_1314 qr187 (by decide) (kr _ ⟨by omega, by omega⟩ _ (sw_sj h).symm)
                                                          · replace h := sw_ifN hb418 h
                                                            refine ga_zneN (t := 1315) qd187_1310 e417 hb418 rfl ?_
                                                            refine ga_jp (t := 1375) qd187_1315 rfl ?_
                                                            refine ga_ii (L' := [some (.ref G.1), some (.ref (z + 0)), some (.ref (z + 221)), some (.ref (z + 228)), some (.int (Int32.ofInt (l4 + 3))), some (.double r410), none, some (.double r412.1), none]) qd187_1375 rfl rfl ?_
                                                            refine ga_jp (t := 23) qd187_1378 rfl ?_
                                                            exact sq_weak (L := [some (.ref G.1), some (.ref (z + 0)), some (.ref (z + 221)), some (.ref (z + 228)), some (.int (Int32.ofInt (l4 + 3))), none, none, none, none]) ⟨rfl, rfl, rfl, rfl, rfl, trivial⟩ (ih r412.2 (l4 + 3) K (fun K2 hK2 => kk K2 (⟨by have := hK2.1; omega, by have := hK2.2; omega⟩)) (fun K2 hK2 => kr K2 (⟨by have := hK2.1; omega, by have := hK2.2; omega⟩)) h)
                                                    · replace h := sw_ifN hb408 h
                                                      by_cases hb419 : ((sw_xs G l4) % 32) = 24
                                                      · replace h := sw_ifY hb419 h
                                                        refine ga_sw (t := 1318) qd187_39 rfl hb419 rfl ?_
                                                        refine go_l qd187_1318 rfl ?_
                                                        obtain ⟨r421, e420, h⟩ := sw_bind h
                                                        refine ga_kv (a := 0) (as := []) (rest := []) qd187_1319 qk187_163 (sw_sl hn (by decide)) rfl rfl rfl (Nat.le_of_ble_eq_true rfl) (Nat.le_of_ble_eq_true rfl) rfl (A83 hn e420 (sw_bkv ?_))
                                                        obtain ⟨_u, e422, h⟩ := sw_bind h
                                                        refine ga_f2d qd187_1322 e422 ?_
                                                        refine go_l (L' := [some (.ref G.1), some (.ref (z + 0)), some (.ref (z + 221)), some (.ref (z + 228)), some (.int (Int32.ofInt l4)), some (.double (FP.f2d r421)), none, none, none]) (st' := []) qd187_1323 rfl ?_
                                                        refine go_l qd187_1325 rfl ?_
                                                        obtain ⟨r424, e423, h⟩ := sw_bind h
                                                        refine ga_kv (a := 221) (as := []) (rest := []) qd187_1326 qk187_167 (sw_sl hn (by decide)) rfl rfl rfl (Nat.le_of_ble_eq_true rfl) (Nat.le_of_ble_eq_true rfl) rfl (A165 hn e423 (sw_bkv ?_))
                                                        obtain ⟨_u, e425, h⟩ := sw_bind h
                                                        refine ga_f2d qd187_1329 e425 ?_
                                                        refine go_l (L' := [some (.ref G.1), some (.ref (z + 0)), some (.ref (z + 221)), some (.ref (z + 228)), some (.int (Int32.ofInt l4)), some (.double (FP.f2d r421)), none, some (.double (FP.f2d r424.1)), none]) (st' := []) qd187_1330 rfl ?_
                                                        refine go_l qd187_1332 rfl ?_
                                                        refine go_l qd187_1334 rfl ?_
                                                        refine ga_dcmp qd187_1336 ?_
                                                        obtain ⟨_u, e426, h⟩ := sw_bind h
                                                        by_cases hb427 : ((Op.cmpValue (FP.dcmp (FP.f2d r421) (FP.f2d r424.1)) .l).toInt) = 0
                                                        · replace h := sw_ifY hb427 h
                                                          refine ga_zeqY (t := 1358) qd187_1337 e426 hb427 rfl ?_
                                                          refine ga_jp (t := 1375) qd187_1358 rfl ?_
                                                          refine ga_ii (L' := [some (.ref G.1), some (.ref (z + 0)), some (.ref (z + 221)), some (.ref (z + 228)), some (.int (Int32.ofInt (l4 + 3))), some (.double (FP.f2d r421)), none, some (.double (FP.f2d r424.1)), none]) qd187_1375 rfl rfl ?_
                                                          refine ga_jp (t := 23) qd187_1378 rfl ?_
                                                          exact sq_weak (L := [some (.ref G.1), some (.ref (z + 0)), some (.ref (z + 221)), some (.ref (z + 228)), some (.int (Int32.ofInt (l4 + 3))), none, none, none, none]) ⟨rfl, rfl, rfl, rfl, rfl, trivial⟩ (ih r424.2 (l4 + 3) K (fun K2 hK2 => kk K2 (⟨by have := hK2.1; omega, by have := hK2.2; omega⟩)) (fun K2 hK2 => kr K2 (⟨by have := hK2.1; omega, by have := hK2.2; omega⟩)) h)
                                                        · replace h := sw_ifN hb427 h
                                                          refine ga_zeqN (t := 1358) qd187_1337 e426 hb427 rfl ?_
                                                          refine go_l qd187_1340 rfl ?_
                                                          refine go_l qd187_1342 rfl ?_
                                                          refine ga_dcmp qd187_1344 ?_
                                                          obtain ⟨_u, e428, h⟩ := sw_bind h
                                                          by_cases hb429 : ((Op.cmpValue (FP.dcmp (FP.f2d r421) (FP.f2d r421)) .l).toInt) = 0
                                                          · replace h := sw_ifY hb429 h
                                                            refine ga_zeqY (t := 1356) qd187_1345 e428 hb429 rfl ?_
                                                            refine go_s qd187_1356 rfl ?_
                                                            exact ga_rb (u := ()) qd187_1357 qr187 (by decide) (kr _ ⟨by omega, by omega⟩ _ (sw_sj h).symm)
                                                          · replace h := sw_ifN hb429 h
                                                            refine ga_zeqN (t := 1356) qd187_1345 e428 hb429 rfl ?_
                                                            refine go_l qd187_1348 rfl ?_
                                                            refine go_l qd187_1350 rfl ?_
                                                            refine ga_dcmp qd187_1352 ?_
                                                            obtain ⟨_u, e430, h⟩ := sw_bind h
                                                            by_cases hb431 : ((Op.cmpValue (FP.dcmp (FP.f2d r424.1) (FP.f2d r424.1)) .l).toInt) = 0
                                                            · replace h := sw_ifY hb431 h
                                                              refine ga_zneY (t := 1358) qd187_1353 e430 hb431 rfl ?_
                                                              refine go_s qd187_1356 rfl ?_
                                                              exact ga_rb (u := ()) qd187_1357 qr187 (by decide) (kr _ ⟨by omega, by omega⟩ _ (sw_sj h).symm)
                                                            · replace h := sw_ifN hb431 h
                                                              refine ga_zneN (t := 1358) qd187_1353 e430 hb431 rfl ?_
                                                              refine ga_jp (t := 1375) qd187_1358 rfl ?_
                                                              refine ga_ii (L' := [some (.ref G.1), some (.ref (z + 0)), some (.ref (z + 221)), some (.ref (z + 228)), some (.int (Int32.ofInt (l4 + 3))), some (.double (FP.f2d r421)), none, some (.double (FP.f2d r424.1)), none]) qd187_1375 rfl rfl ?_
                                                              refine ga_jp (t := 23) qd187_1378 rfl ?_
                                                              exact sq_weak (L := [some (.ref G.1), some (.ref (z + 0)), some (.ref (z + 221)), some (.ref (z + 228)), some (.int (Int32.ofInt (l4 + 3))), none, none, none, none]) ⟨rfl, rfl, rfl, rfl, rfl, trivial⟩ (ih r424.2 (l4 + 3) K (fun K2 hK2 => kk K2 (⟨by have := hK2.1; omega, by have := hK2.2; omega⟩)) (fun K2 hK2 => kr K2 (⟨by have := hK2.1; omega, by have := hK2.2; omega⟩)) h)
                                                      · replace h := sw_ifN hb419 h
                                                        by_cases hb432 : ((sw_xs G l4) % 32) = 25
                                                        · replace h := sw_ifY hb432 h
                                                          refine ga_sw (t := 1361) qd187_39 rfl hb432 rfl ?_
                                                          refine go_l qd187_1361 rfl ?_
                                                          obtain ⟨r434, e433, h⟩ := sw_bind h
                                                          refine ga_kv (a := 0) (as := []) (rest := []) qd187_1362 qk187_168 (sw_sl hn (by decide)) rfl rfl rfl (Nat.le_of_ble_eq_true rfl) (Nat.le_of_ble_eq_true rfl) rfl (A84 hn e433 (sw_bkv ?_))
                                                          refine go_l qd187_1365 rfl ?_
                                                          obtain ⟨r436, e435, h⟩ := sw_bind h
                                                          refine ga_kv (a := 221) (as := []) (rest := [.long (Int64.ofInt r434.1)]) qd187_1366 qk187_172 (sw_sl hn (by decide)) rfl rfl rfl (Nat.le_of_ble_eq_true rfl) (Nat.le_of_ble_eq_true rfl) rfl (A168 hn e435 (fun K437 hk438 => sw_bkv ?_))
                                                          by_cases hb440 : r434.1 = r436.1
                                                          · replace h := sw_ifY hb440 h
                                                            refine ga_lceY (t := 1375) qd187_1369 hb440 qd187_1370 rfl ?_
                                                            refine ga_ii (L' := [some (.ref G.1), some (.ref (z + 0)), some (.ref (z + 221)), some (.ref (z + 228)), some (.int (Int32.ofInt (l4 + 3))), none, none, none, none]) qd187_1375 rfl rfl ?_
                                                            refine ga_jp (t := 23) qd187_1378 rfl ?_
                                                            exact sq_weak (L := [some (.ref G.1), some (.ref (z + 0)), some (.ref (z + 221)), some (.ref (z + 228)), some (.int (Int32.ofInt (l4 + 3))), none, none, none, none]) ⟨rfl, rfl, rfl, rfl, rfl, trivial⟩ (ih r436.2 (l4 + 3) K437 (fun K2 hK2 => kk K2 (⟨by have := hK2.1; have := hk438.1; omega, by have := hK2.2; have := hk438.2; omega⟩)) (fun K2 hK2 => kr K2 (⟨by have := hK2.1; have := hk438.1; omega, by have := hK2.2; have := hk438.2; omega⟩)) h)
                                                          · replace h := sw_ifN hb440 h
                                                            obtain ⟨_u, e439, h⟩ := sw_bind h
                                                            refine ga_lceN (t := 1375) qd187_1369 e439 hb440 qd187_1370 rfl ?_
                                                            refine go_s qd187_1373 rfl ?_
                                                            exact ga_rb (u := ()) qd187_1374 qr187 (by decide) (kr _ ⟨by have := hk438.1; omega, by have := hk438.2; omega⟩ _ (sw_sj h).symm)
                                                        · replace h := sw_ifN hb432 h
                                                          refine ga_tsd (t := 1375) qd187_39 e4 (by omega) rfl ?_
                                                          refine ga_ii (L' := [some (.ref G.1), some (.ref (z + 0)), some (.ref (z + 221)), some (.ref (z + 228)), some (.int (Int32.ofInt (l4 + 3))), none, none, none, none]) qd187_1375 rfl rfl ?_
                                                          refine ga_jp (t := 23) qd187_1378 rfl ?_
                                                          exact sq_weak (L := [some (.ref G.1), some (.ref (z + 0)), some (.ref (z + 221)), some (.ref (z + 228)), some (.int (Int32.ofInt (l4 + 3))), none, none, none, none]) ⟨rfl, rfl, rfl, rfl, rfl, trivial⟩ (ih T (l4 + 3) K (fun K2 hK2 => kk K2 (⟨by have := hK2.1; omega, by have := hK2.2; omega⟩)) (fun K2 hK2 => kr K2 (⟨by have := hK2.1; omega, by have := hK2.2; omega⟩)) h)
def w187 (G : sp_G) (T : sw_T) : Option (Int × sw_T) :=
  (w187_23 G sw_N T 0).bind fun x441 =>
  sw_el x441 (fun x444 =>
    some ((1, x444))
  ) (fun r => some r)
theorem A187 {G : sp_G} {z n : Nat} (hn : 228 ≤ n) (hG : sw_G G z) (ho : sw_s n 228 = some (3, 1)) {T : sw_T} {K : sw_K} {res : Int × sw_T} {Q : sp_R → sp_M → Prop} (h : w187 G T = some res) (kk : ∀ K' : sw_K, (K'.2.1 ≤ K.2.1 + sw_N ∧ K'.2.2 ≤ K.2.2 + 6 * sw_N) → Q (.inl (some (.int (Int32.ofInt res.1)))) (sw_M z n sw_Ft res.2 K')) : sq_go G 187 20 [some (.ref G.1), some (.ref (z + 0)), some (.ref (z + 221)), some (.ref (z + 228)), none, none, none, none, none] [] (sw_M z n sw_Ft T K) Q := by
  unfold w187 at h
  refine go_s qd187_20 rfl ?_
  refine go_l (L' := [some (.ref G.1), some (.ref (z + 0)), some (.ref (z + 221)), some (.ref (z + 228)), some (.int (Int32.ofInt 0)), none, none, none, none]) (st' := []) qd187_21 rfl ?_
  obtain ⟨x441, e442, h⟩ := sw_bind h
  refine sq_weak (L := [some (.ref G.1), some (.ref (z + 0)), some (.ref (z + 221)), some (.ref (z + 228)), some (.int (Int32.ofInt 0)), none, none, none, none]) ⟨rfl, rfl, rfl, rfl, rfl, trivial⟩ (B187_23 hn hG ho sw_N T 0 K (fun K445 hk446 x444 g443 => ?_) (fun K445 hk446 r g443 => ?_) e442)
  · replace h := sw_elL g443 h
    refine go_s qd187_1381 rfl ?_
    rw [← sw_sj h] at kk
    exact ga_rb (u := ()) qd187_1382 qr187 (by decide) (kk _ hk446)
  · replace h := sw_elR g443 h
    rw [← sw_sj h] at kk
    exact kk _ hk446
