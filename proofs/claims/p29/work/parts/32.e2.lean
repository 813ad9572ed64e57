/-! ===== the methods as functions over tables ===== -/
theorem qk48_59 : sw_ck 48 59 65 0 1 5 2 = true := by decide +kernel
theorem qk48_36 : sw_ck 48 36 66 1 1 5 1 = true := by decide +kernel
theorem qc48 : sq_c 48 = 5 := by decide +kernel
theorem qk48_51 : sw_ck 48 51 1 0 1 0 3 = true := by decide +kernel
theorem qk48_62 : sw_ck 48 62 16 0 2 3 4 = true := by decide +kernel
theorem qr48 : sq_ret 48 = some .int := by decide +kernel
theorem qn48 : sw_nh 48 = true := by decide +kernel
-- 48: SewingPiles.speed(II)I
def w60 (T : sw_T) (p1 : Int) (p2 : Int) : Option ((Int × sw_T) ⊕ Nat) :=
  (w90 T p1).bind fun r2 =>
  sw_el r2 (fun r3 =>
    (w91 T p2).bind fun r8 =>
    sw_el r8 (fun r9 =>
      (w1 1 T).bind fun r14 =>
      (w27 1 r14 p1 p2).bind fun r16 =>
      some (.inl ((r16.1, r16.2)))
    ) (fun E10 =>
    some (.inr E10))
  ) (fun E4 =>
  some (.inr E4))
theorem A48 {G : sp_G} {z n : Nat} (hn : 221 ≤ n) {T : sw_T} {K : sw_K} {p1 : Int} {p2 : Int} {res : (Int × sw_T) ⊕ Nat} {Q : sp_R → sp_M → Prop} (h : w60 T p1 p2 = some res) (kk : ∀ r, res = .inl r → Q (.inl (some (.int (Int32.ofInt r.1)))) (sw_M z n sw_Ft r.2 K)) (kx : ∀ E, res = .inr E → Q (.inr (sw_en E)) (sw_M z n sw_Ft T (sw_th K))) : sq_go G 48 0 [some (.ref (z + 0)), some (.int (Int32.ofInt p1)), some (.int (Int32.ofInt p2))] [] (sw_M z n sw_Ft T K) Q := by
  unfold w60 at h
  refine go_l qd48_0 rfl ?_
  refine go_l qd48_1 rfl ?_
  obtain ⟨r2, e1, h⟩ := sw_bind h
  refine ga_kv (a := 0) (as := [.int (Int32.ofInt p1)]) (rest := []) qd48_2 qk48_59 (sw_sl hn (by decide)) rfl rfl rfl (Nat.le_of_ble_eq_true rfl) (Nat.le_of_ble_eq_true rfl) rfl (A65 hn e1 (fun r3 g5 => ?_) (fun E4 g6 => ?_))
  · refine sw_bk0 ?_
    replace h := sw_elL g5 h
    refine go_l qd48_5 rfl ?_
    obtain ⟨r8, e7, h⟩ := sw_bind h
    refine ga_kS (as := [.int (Int32.ofInt p2)]) (rest := []) qd48_6 qk48_36 rfl rfl (Nat.le_of_ble_eq_true rfl) (Nat.le_of_ble_eq_true rfl) rfl (A66 hn e7 (fun r9 g11 => ?_) (fun E10 g12 => ?_))
    · refine sw_bk0 ?_
      replace h := sw_elL g11 h
      refine go_l qd48_9 rfl ?_
      refine ga_gf (v := .ref (z + 73)) qd48_10 qc48 qf5_25 (sw_sl hn (by decide)) rfl rfl ?_
      refine go_l qd48_13 rfl ?_
      refine ga_gf (v := .ref (z + 1)) qd48_14 qc48 qf5_10 (sw_sl hn (by decide)) rfl rfl ?_
      obtain ⟨r14, e13, h⟩ := sw_bind h
      refine ga_kv (a := 73) (as := [.ref (z + 1)]) (rest := []) qd48_17 qk48_51 (sw_sl hn (by decide)) rfl rfl rfl (Nat.le_of_ble_eq_true rfl) (Nat.le_of_ble_eq_true rfl) rfl (A1 hn (by decide) e13 (sw_bk0 ?_))
      refine go_l qd48_20 rfl ?_
      refine ga_gf (v := .ref (z + 1)) qd48_21 qc48 qf5_10 (sw_sl hn (by decide)) rfl rfl ?_
      refine go_l qd48_24 rfl ?_
      refine go_l qd48_25 rfl ?_
      obtain ⟨r16, e15, h⟩ := sw_bind h
      refine ga_kv (a := 1) (as := [.int (Int32.ofInt p1), .int (Int32.ofInt p2)]) (rest := []) qd48_26 qk48_62 (sw_sl hn (by decide)) rfl rfl rfl (Nat.le_of_ble_eq_true rfl) (Nat.le_of_ble_eq_true rfl) rfl (A16 hn (by decide) e15 (sw_bkv ?_))
      exact ga_ri qd48_29 qr48 (kk _ (sw_sj h).symm)
    · replace h := sw_elR g12 h
      exact sw_thn qn48 (kx _ (sw_sj h).symm)
  · replace h := sw_elR g6 h
    exact sw_thn qn48 (kx _ (sw_sj h).symm)
theorem qk49_59 : sw_ck 49 59 65 0 1 5 2 = true := by decide +kernel
theorem qt49_16 : sw_tq 49 16 0 = true := by decide +kernel
theorem qc49 : sq_c 49 = 5 := by decide +kernel
theorem qk49_71 : sw_ck 49 71 18 0 1 3 2 = true := by decide +kernel
theorem qt49_37 : sw_tq 49 37 1 = true := by decide +kernel
theorem qk49_51 : sw_ck 49 51 1 0 1 0 3 = true := by decide +kernel
theorem qk49_77 : sw_ck 49 77 19 0 2 3 4 = true := by decide +kernel
theorem qr49 : sq_ret 49 = some .int := by decide +kernel
theorem qn49 : sw_nh 49 = true := by decide +kernel
-- 49: SewingPiles.lay(II)I
def w61 (T : sw_T) (p1 : Int) (p2 : Int) : Option ((Int × sw_T) ⊕ Nat) :=
  (w90 T p1).bind fun r2 =>
  sw_el r2 (fun r3 =>
    (sw_r2 p2 1).bind fun _u =>
    if p2 < 1 then
      some (.inr 0)
    else
      (sw_r2 p2 99).bind fun _u =>
      if 99 < p2 then
        some (.inr 0)
      else
        (w29 1 T p1).bind fun r12 =>
        (sw_r1 r12).bind fun _u =>
        if r12 = 0 then
          some (.inr 1)
        else
          (w1 1 T).bind fun r16 =>
          (w30 1 r16 p1 p2).bind fun r18 =>
          some (.inl ((r18.1, r18.2)))
  ) (fun E4 =>
  some (.inr E4))
theorem A49 {G : sp_G} {z n : Nat} (hn : 221 ≤ n) {T : sw_T} {K : sw_K} {p1 : Int} {p2 : Int} {res : (Int × sw_T) ⊕ Nat} {Q : sp_R → sp_M → Prop} (h : w61 T p1 p2 = some res) (kk : ∀ r, res = .inl r → Q (.inl (some (.int (Int32.ofInt r.1)))) (sw_M z n sw_Ft r.2 K)) (kx : ∀ E, res = .inr E → Q (.inr (sw_en E)) (sw_M z n sw_Ft T (sw_th K))) : sq_go G 49 0 [some (.ref (z + 0)), some (.int (Int32.ofInt p1)), some (.int (Int32.ofInt p2))] [] (sw_M z n sw_Ft T K) Q := by
  unfold w61 at h
  refine go_l qd49_0 rfl ?_
  refine go_l qd49_1 rfl ?_
  obtain ⟨r2, e1, h⟩ := sw_bind h
  refine ga_kv (a := 0) (as := [.int (Int32.ofInt p1)]) (rest := []) qd49_2 qk49_59 (sw_sl hn (by decide)) rfl rfl rfl (Nat.le_of_ble_eq_true rfl) (Nat.le_of_ble_eq_true rfl) rfl (A65 hn e1 (fun r3 g5 => ?_) (fun E4 g6 => ?_))
  · refine sw_bk0 ?_
    replace h := sw_elL g5 h
    refine go_l qd49_5 rfl ?_
    refine go_s qd49_6 rfl ?_
    obtain ⟨_u, e7, h⟩ := sw_bind h
    by_cases hb8 : p2 < 1
    · replace h := sw_ifY hb8 h
      refine ga_cltY (t := 16) qd49_7 e7 hb8 rfl ?_
      exact ga_th qt49_16 (Nat.le_of_ble_eq_true rfl) (kx _ (sw_sj h).symm)
    · replace h := sw_ifN hb8 h
      refine ga_cltN (t := 16) qd49_7 e7 hb8 rfl ?_
      refine go_l qd49_10 rfl ?_
      refine ga_k8 qd49_11 rfl ?_
      obtain ⟨_u, e9, h⟩ := sw_bind h
      by_cases hb10 : 99 < p2
      · replace h := sw_ifY hb10 h
        refine ga_cleY (t := 26) qd49_13 e9 hb10 rfl ?_
        exact ga_th qt49_16 (Nat.le_of_ble_eq_true rfl) (kx _ (sw_sj h).symm)
      · replace h := sw_ifN hb10 h
        refine ga_cleN (t := 26) qd49_13 e9 hb10 rfl ?_
        refine go_l qd49_26 rfl ?_
        refine ga_gf (v := .ref (z + 1)) qd49_27 qc49 qf5_10 (sw_sl hn (by decide)) rfl rfl ?_
        refine go_l qd49_30 rfl ?_
        obtain ⟨r12, e11, h⟩ := sw_bind h
        refine ga_kv (a := 1) (as := [.int (Int32.ofInt p1)]) (rest := []) qd49_31 qk49_71 (sw_sl hn (by decide)) rfl rfl rfl (Nat.le_of_ble_eq_true rfl) (Nat.le_of_ble_eq_true rfl) rfl (A18 hn (by decide) e11 (sw_bkv ?_))
        obtain ⟨_u, e13, h⟩ := sw_bind h
        by_cases hb14 : r12 = 0
        · replace h := sw_ifY hb14 h
          refine ga_zneY (t := 47) qd49_34 e13 hb14 rfl ?_
          exact ga_th qt49_37 (Nat.le_of_ble_eq_true rfl) (kx _ (sw_sj h).symm)
        · replace h := sw_ifN hb14 h
          refine ga_zneN (t := 47) qd49_34 e13 hb14 rfl ?_
          refine go_l qd49_47 rfl ?_
          refine ga_gf (v := .ref (z + 73)) qd49_48 qc49 qf5_25 (sw_sl hn (by decide)) rfl rfl ?_
          refine go_l qd49_51 rfl ?_
          refine ga_gf (v := .ref (z + 1)) qd49_52 qc49 qf5_10 (sw_sl hn (by decide)) rfl rfl ?_
          obtain ⟨r16, e15, h⟩ := sw_bind h
          refine ga_kv (a := 73) (as := [.ref (z + 1)]) (rest := []) qd49_55 qk49_51 (sw_sl hn (by decide)) rfl rfl rfl (Nat.le_of_ble_eq_true rfl) (Nat.le_of_ble_eq_true rfl) rfl (A1 hn (by decide) e15 (sw_bk0 ?_))
          refine go_l qd49_58 rfl ?_
          refine ga_gf (v := .ref (z + 1)) qd49_59 qc49 qf5_10 (sw_sl hn (by decide)) rfl rfl ?_
          refine go_l qd49_62 rfl ?_
          refine go_l qd49_63 rfl ?_
          obtain ⟨r18, e17, h⟩ := sw_bind h
          refine ga_kv (a := 1) (as := [.int (Int32.ofInt p1), .int (Int32.ofInt p2)]) (rest := []) qd49_64 qk49_77 (sw_sl hn (by decide)) rfl rfl rfl (Nat.le_of_ble_eq_true rfl) (Nat.le_of_ble_eq_true rfl) rfl (A19 hn (by decide) e17 (sw_bkv ?_))
          exact ga_ri qd49_67 qr49 (kk _ (sw_sj h).symm)
  · replace h := sw_elR g6 h
    exact sw_thn qn49 (kx _ (sw_sj h).symm)
theorem qk50_59 : sw_ck 50 59 65 0 1 5 2 = true := by decide +kernel
theorem qc50 : sq_c 50 = 5 := by decide +kernel
theorem qk50_51 : sw_ck 50 51 1 0 1 0 3 = true := by decide +kernel
theorem qk50_80 : sw_ck 50 80 17 0 1 3 3 = true := by decide +kernel
theorem qr50 : sq_ret 50 = some .int := by decide +kernel
theorem qn50 : sw_nh 50 = true := by decide +kernel
-- 50: SewingPiles.wake(I)I
def w62 (T : sw_T) (p1 : Int) : Option ((Int × sw_T) ⊕ Nat) :=
  (w90 T p1).bind fun r2 =>
  sw_el r2 (fun r3 =>
    (w1 1 T).bind fun r8 =>
    (w28 1 r8 p1).bind fun r10 =>
    some (.inl ((r10.1, r10.2)))
  ) (fun E4 =>
  some (.inr E4))
theorem A50 {G : sp_G} {z n : Nat} (hn : 221 ≤ n) {T : sw_T} {K : sw_K} {p1 : Int} {res : (Int × sw_T) ⊕ Nat} {Q : sp_R → sp_M → Prop} (h : w62 T p1 = some res) (kk : ∀ r, res = .inl r → Q (.inl (some (.int (Int32.ofInt r.1)))) (sw_M z n sw_Ft r.2 K)) (kx : ∀ E, res = .inr E → Q (.inr (sw_en E)) (sw_M z n sw_Ft T (sw_th K))) : sq_go G 50 0 [some (.ref (z + 0)), some (.int (Int32.ofInt p1))] [] (sw_M z n sw_Ft T K) Q := by
  unfold w62 at h
  refine go_l qd50_0 rfl ?_
  refine go_l qd50_1 rfl ?_
  obtain ⟨r2, e1, h⟩ := sw_bind h
  refine ga_kv (a := 0) (as := [.int (Int32.ofInt p1)]) (rest := []) qd50_2 qk50_59 (sw_sl hn (by decide)) rfl rfl rfl (Nat.le_of_ble_eq_true rfl) (Nat.le_of_ble_eq_true rfl) rfl (A65 hn e1 (fun r3 g5 => ?_) (fun E4 g6 => ?_))
  · refine sw_bk0 ?_
    replace h := sw_elL g5 h
    refine go_l qd50_5 rfl ?_
    refine ga_gf (v := .ref (z + 73)) qd50_6 qc50 qf5_25 (sw_sl hn (by decide)) rfl rfl ?_
    refine go_l qd50_9 rfl ?_
    refine ga_gf (v := .ref (z + 1)) qd50_10 qc50 qf5_10 (sw_sl hn (by decide)) rfl rfl ?_
    obtain ⟨r8, e7, h⟩ := sw_bind h
    refine ga_kv (a := 73) (as := [.ref (z + 1)]) (rest := []) qd50_13 qk50_51 (sw_sl hn (by decide)) rfl rfl rfl (Nat.le_of_ble_eq_true rfl) (Nat.le_of_ble_eq_true rfl) rfl (A1 hn (by decide) e7 (sw_bk0 ?_))
    refine go_l qd50_16 rfl ?_
    refine ga_gf (v := .ref (z + 1)) qd50_17 qc50 qf5_10 (sw_sl hn (by decide)) rfl rfl ?_
    refine go_l qd50_20 rfl ?_
    obtain ⟨r10, e9, h⟩ := sw_bind h
    refine ga_kv (a := 1) (as := [.int (Int32.ofInt p1)]) (rest := []) qd50_21 qk50_80 (sw_sl hn (by decide)) rfl rfl rfl (Nat.le_of_ble_eq_true rfl) (Nat.le_of_ble_eq_true rfl) rfl (A17 hn (by decide) e9 (sw_bkv ?_))
    exact ga_ri qd50_24 qr50 (kk _ (sw_sj h).symm)
  · replace h := sw_elR g6 h
    exact sw_thn qn50 (kx _ (sw_sj h).symm)
theorem qt51_11 : sw_tq 51 11 0 = true := by decide +kernel
theorem qc51 : sq_c 51 = 5 := by decide +kernel
theorem qk51_51 : sw_ck 51 51 1 0 1 0 3 = true := by decide +kernel
theorem qk51_85 : sw_ck 51 85 33 0 0 3 1 = true := by decide +kernel
theorem qk51_89 : sw_ck 51 89 21 0 1 3 3 = true := by decide +kernel
theorem qr51 : sq_ret 51 = some .int := by decide +kernel
-- 51: SewingPiles.pass(I)I
def w63 (T : sw_T) (p1 : Int) : Option ((Int × sw_T) ⊕ Nat) :=
  (sw_r2 p1 1).bind fun _u =>
  if p1 < 1 then
    some (.inr 0)
  else
    (sw_r2 p1 99).bind fun _u =>
    if 99 < p1 then
      some (.inr 0)
    else
      (w1 1 T).bind fun r6 =>
      (w45 1 r6).bind fun r8 =>
      (w32 1 r6 p1).bind fun r10 =>
      (w45 1 r10).bind fun r12 =>
      some (.inl (((r12 - r8), r10)))
theorem A51 {G : sp_G} {z n : Nat} (hn : 221 ≤ n) {T : sw_T} {K : sw_K} {p1 : Int} {res : (Int × sw_T) ⊕ Nat} {Q : sp_R → sp_M → Prop} (h : w63 T p1 = some res) (kk : ∀ r, res = .inl r → Q (.inl (some (.int (Int32.ofInt r.1)))) (sw_M z n sw_Ft r.2 K)) (kx : ∀ E, res = .inr E → Q (.inr (sw_en E)) (sw_M z n sw_Ft T (sw_th K))) : sq_go G 51 0 [some (.ref (z + 0)), some (.int (Int32.ofInt p1)), none] [] (sw_M z n sw_Ft T K) Q := by
  unfold w63 at h
  refine go_l qd51_0 rfl ?_
  refine go_s qd51_1 rfl ?_
  obtain ⟨_u, e1, h⟩ := sw_bind h
  by_cases hb2 : p1 < 1
  · replace h := sw_ifY hb2 h
    refine ga_cltY (t := 11) qd51_2 e1 hb2 rfl ?_
    exact ga_th qt51_11 (Nat.le_of_ble_eq_true rfl) (kx _ (sw_sj h).symm)
  · replace h := sw_ifN hb2 h
    refine ga_cltN (t := 11) qd51_2 e1 hb2 rfl ?_
    refine go_l qd51_5 rfl ?_
    refine ga_k8 qd51_6 rfl ?_
    obtain ⟨_u, e3, h⟩ := sw_bind h
    by_cases hb4 : 99 < p1
    · replace h := sw_ifY hb4 h
      refine ga_cleY (t := 21) qd51_8 e3 hb4 rfl ?_
      exact ga_th qt51_11 (Nat.le_of_ble_eq_true rfl) (kx _ (sw_sj h).symm)
    · replace h := sw_ifN hb4 h
      refine ga_cleN (t := 21) qd51_8 e3 hb4 rfl ?_
      refine go_l qd51_21 rfl ?_
      refine ga_gf (v := .ref (z + 73)) qd51_22 qc51 qf5_25 (sw_sl hn (by decide)) rfl rfl ?_
      refine go_l qd51_25 rfl ?_
      refine ga_gf (v := .ref (z + 1)) qd51_26 qc51 qf5_10 (sw_sl hn (by decide)) rfl rfl ?_
      obtain ⟨r6, e5, h⟩ := sw_bind h
      refine ga_kv (a := 73) (as := [.ref (z + 1)]) (rest := []) qd51_29 qk51_51 (sw_sl hn (by decide)) rfl rfl rfl (Nat.le_of_ble_eq_true rfl) (Nat.le_of_ble_eq_true rfl) rfl (A1 hn (by decide) e5 (sw_bk0 ?_))
      refine go_l qd51_32 rfl ?_
      refine ga_gf (v := .ref (z + 1)) qd51_33 qc51 qf5_10 (sw_sl hn (by decide)) rfl rfl ?_
      obtain ⟨r8, e7, h⟩ := sw_bind h
      refine ga_kv (a := 1) (as := []) (rest := []) qd51_36 qk51_85 (sw_sl hn (by decide)) rfl rfl rfl (Nat.le_of_ble_eq_true rfl) (Nat.le_of_ble_eq_true rfl) rfl (A33 hn (by decide) e7 (sw_bkv ?_))
      refine go_l (L' := [some (.ref (z + 0)), some (.int (Int32.ofInt p1)), some (.int (Int32.ofInt r8))]) (st' := []) qd51_39 rfl ?_
      refine go_l qd51_40 rfl ?_
      refine ga_gf (v := .ref (z + 1)) qd51_41 qc51 qf5_10 (sw_sl hn (by decide)) rfl rfl ?_
      refine go_l qd51_44 rfl ?_
      obtain ⟨r10, e9, h⟩ := sw_bind h
      refine ga_kv (a := 1) (as := [.int (Int32.ofInt p1)]) (rest := []) qd51_45 qk51_89 (sw_sl hn (by decide)) rfl rfl rfl (Nat.le_of_ble_eq_true rfl) (Nat.le_of_ble_eq_true rfl) rfl (A21 hn (by decide) e9 (sw_bk0 ?_))
      refine go_l qd51_48 rfl ?_
      refine ga_gf (v := .ref (z + 1)) qd51_49 qc51 qf5_10 (sw_sl hn (by decide)) rfl rfl ?_
      obtain ⟨r12, e11, h⟩ := sw_bind h
      refine ga_kv (a := 1) (as := []) (rest := []) qd51_52 qk51_85 (sw_sl hn (by decide)) rfl rfl rfl (Nat.le_of_ble_eq_true rfl) (Nat.le_of_ble_eq_true rfl) rfl (A33 hn (by decide) e11 (sw_bkv ?_))
      refine go_l qd51_55 rfl ?_
      refine ga_isub qd51_56 ?_
      exact ga_ri qd51_57 qr51 (kk _ (sw_sj h).symm)
theorem qt67_9 : sw_tq 67 9 2 = true := by decide +kernel
theorem qr67 : sq_ret 67 = none := by decide +kernel
-- 67: SewingPiles.checkSetting(I)V
def w92 (T : sw_T) (p0 : Int) : Option ((Unit) ⊕ Nat) :=
  (sw_r1 p0).bind fun _u =>
  if p0 < 0 then
    some (.inr 2)
  else
    (sw_r2 p0 3).bind fun _u =>
    if p0 < 3 then
      some (.inl (()))
    else
      some (.inr 2)
theorem A67 {G : sp_G} {z n : Nat} (hn : 221 ≤ n) {T : sw_T} {K : sw_K} {p0 : Int} {res : (Unit) ⊕ Nat} {Q : sp_R → sp_M → Prop} (h : w92 T p0 = some res) (kk : ∀ r, res = .inl r → Q (.inl none) (sw_M z n sw_Ft T K)) (kx : ∀ E, res = .inr E → Q (.inr (sw_en E)) (sw_M z n sw_Ft T (sw_th K))) : sq_go G 67 0 [some (.int (Int32.ofInt p0))] [] (sw_M z n sw_Ft T K) Q := by
  unfold w92 at h
  refine go_l qd67_0 rfl ?_
  obtain ⟨_u, e1, h⟩ := sw_bind h
  by_cases hb2 : p0 < 0
  · replace h := sw_ifY hb2 h
    refine ga_zltY (t := 9) qd67_1 e1 hb2 rfl ?_
    exact ga_th qt67_9 (Nat.le_of_ble_eq_true rfl) (kx _ (sw_sj h).symm)
  · replace h := sw_ifN hb2 h
    refine ga_zltN (t := 9) qd67_1 e1 hb2 rfl ?_
    refine go_l qd67_4 rfl ?_
    refine go_s qd67_5 rfl ?_
    obtain ⟨_u, e3, h⟩ := sw_bind h
    by_cases hb4 : p0 < 3
    · replace h := sw_ifY hb4 h
      refine ga_cltY (t := 20) qd67_6 e3 hb4 rfl ?_
      exact ga_rv qd67_20 qr67 (kk _ (sw_sj h).symm)
    · replace h := sw_ifN hb4 h
      refine ga_cltN (t := 20) qd67_6 e3 hb4 rfl ?_
      exact ga_th qt67_9 (Nat.le_of_ble_eq_true rfl) (kx _ (sw_sj h).symm)
theorem qk52_92 : sw_ck 52 92 67 1 1 5 1 = true := by decide +kernel
theorem qs5_95 : sp_fd sp_stT 5 95 = some 0 := by decide +kernel
theorem qc52 : sq_c 52 = 5 := by decide +kernel
theorem qt52_22 : sw_tq 52 22 0 = true := by decide +kernel
theorem qs5_99 : sp_fd sp_stT 5 99 = some 1 := by decide +kernel
theorem qk52_51 : sw_ck 52 51 1 0 1 0 3 = true := by decide +kernel
theorem qf5_104 : (sp_fd sp_flT 5 104).or (sp_fd sp_fnT 5 104) = some (3, 4) := by decide +kernel
theorem qr52 : sq_ret 52 = some .int := by decide +kernel
theorem qn52 : sw_nh 52 = true := by decide +kernel
-- 52: SewingPiles.set(II)I
def w64 (T : sw_T) (p1 : Int) (p2 : Int) : Option ((Int × sw_T) ⊕ Nat) :=
  (w92 T p1).bind fun r2 =>
  sw_el r2 (fun r3 =>
    (sw_ix 3 p1).bind fun _u =>
    (sw_r2 p2 (sw_gv 0 p1)).bind fun _u =>
    if p2 < (sw_gv 0 p1) then
      some (.inr 0)
    else
      (sw_ix 3 p1).bind fun _u =>
      (sw_r2 p2 (sw_gv 1 p1)).bind fun _u =>
      if (sw_gv 1 p1) < p2 then
        some (.inr 0)
      else
        (w1 1 T).bind fun r14 =>
        (sw_ld r14 2 3 p1).bind fun v16 =>
        (sw_st r14 2 3 p1 p2).bind fun T18 =>
        some (.inl ((v16, T18)))
  ) (fun E4 =>
  some (.inr E4))
theorem A52 {G : sp_G} {z n : Nat} (hn : 221 ≤ n) (hG : sw_G G z) {T : sw_T} {K : sw_K} {p1 : Int} {p2 : Int} {res : (Int × sw_T) ⊕ Nat} {Q : sp_R → sp_M → Prop} (h : w64 T p1 p2 = some res) (kk : ∀ r, res = .inl r → Q (.inl (some (.int (Int32.ofInt r.1)))) (sw_M z n sw_Ft r.2 K)) (kx : ∀ E, res = .inr E → Q (.inr (sw_en E)) (sw_M z n sw_Ft T (sw_th K))) : sq_go G 52 0 [some (.ref (z + 0)), some (.int (Int32.ofInt p1)), some (.int (Int32.ofInt p2)), none] [] (sw_M z n sw_Ft T K) Q := by
  unfold w64 at h
  refine go_l qd52_0 rfl ?_
  obtain ⟨r2, e1, h⟩ := sw_bind h
  refine ga_kS (as := [.int (Int32.ofInt p1)]) (rest := []) qd52_1 qk52_92 rfl rfl (Nat.le_of_ble_eq_true rfl) (Nat.le_of_ble_eq_true rfl) rfl (A67 hn e1 (fun r3 g5 => ?_) (fun E4 g6 => ?_))
  · refine sw_bk0 ?_
    replace h := sw_elL g5 h
    refine go_l qd52_4 rfl ?_
    refine ga_gs qd52_5 qc52 qs5_95 ?_
    refine go_l qd52_8 rfl ?_
    obtain ⟨_u, e7, h⟩ := sw_bind h
    refine ga_ldS qd52_9 hG (by decide) e7 ?_
    obtain ⟨_u, e8, h⟩ := sw_bind h
    by_cases hb9 : p2 < (sw_gv 0 p1)
    · replace h := sw_ifY hb9 h
      refine ga_cltY (t := 22) qd52_10 e8 hb9 rfl ?_
      exact ga_th qt52_22 (Nat.le_of_ble_eq_true rfl) (kx _ (sw_sj h).symm)
    · replace h := sw_ifN hb9 h
      refine ga_cltN (t := 22) qd52_10 e8 hb9 rfl ?_
      refine go_l qd52_13 rfl ?_
      refine ga_gs qd52_14 qc52 qs5_99 ?_
      refine go_l qd52_17 rfl ?_
      obtain ⟨_u, e10, h⟩ := sw_bind h
      refine ga_ldS qd52_18 hG (by decide) e10 ?_
      obtain ⟨_u, e11, h⟩ := sw_bind h
      by_cases hb12 : (sw_gv 1 p1) < p2
      · replace h := sw_ifY hb12 h
        refine ga_cleY (t := 32) qd52_19 e11 hb12 rfl ?_
        exact ga_th qt52_22 (Nat.le_of_ble_eq_true rfl) (kx _ (sw_sj h).symm)
      · replace h := sw_ifN hb12 h
        refine ga_cleN (t := 32) qd52_19 e11 hb12 rfl ?_
        refine go_l qd52_32 rfl ?_
        refine ga_gf (v := .ref (z + 73)) qd52_33 qc52 qf5_25 (sw_sl hn (by decide)) rfl rfl ?_
        refine go_l qd52_36 rfl ?_
        refine ga_gf (v := .ref (z + 1)) qd52_37 qc52 qf5_10 (sw_sl hn (by decide)) rfl rfl ?_
        obtain ⟨r14, e13, h⟩ := sw_bind h
        refine ga_kv (a := 73) (as := [.ref (z + 1)]) (rest := []) qd52_40 qk52_51 (sw_sl hn (by decide)) rfl rfl rfl (Nat.le_of_ble_eq_true rfl) (Nat.le_of_ble_eq_true rfl) rfl (A1 hn (by decide) e13 (sw_bk0 ?_))
        refine go_l qd52_43 rfl ?_
        refine ga_gf (v := .ref (z + 1)) qd52_44 qc52 qf5_10 (sw_sl hn (by decide)) rfl rfl ?_
        refine ga_gf (v := .ref (z + 2)) qd52_47 qc52 qf5_104 (sw_sl hn (by decide)) rfl rfl ?_
        refine go_l qd52_50 rfl ?_
        obtain ⟨v16, e15, h⟩ := sw_bind h
        refine ga_iald qd52_51 (sw_sl hn (by decide)) e15 ?_
        refine go_l (L' := [some (.ref (z + 0)), some (.int (Int32.ofInt p1)), some (.int (Int32.ofInt p2)), some (.int (Int32.ofInt v16))]) (st' := []) qd52_52 rfl ?_
        refine go_l qd52_53 rfl ?_
        refine ga_gf (v := .ref (z + 1)) qd52_54 qc52 qf5_10 (sw_sl hn (by decide)) rfl rfl ?_
        refine ga_gf (v := .ref (z + 2)) qd52_57 qc52 qf5_104 (sw_sl hn (by decide)) rfl rfl ?_
        refine go_l qd52_60 rfl ?_
        refine go_l qd52_61 rfl ?_
        obtain ⟨T18, e17, h⟩ := sw_bind h
        refine ga_iast qd52_62 (sw_sl hn (by decide)) e17 ?_
        refine go_l qd52_63 rfl ?_
        exact ga_ri qd52_64 qr52 (kk _ (sw_sj h).symm)
  · replace h := sw_elR g6 h
    exact sw_thn qn52 (kx _ (sw_sj h).symm)
theorem qf5_16 : (sp_fd sp_flT 5 16).or (sp_fd sp_fnT 5 16) = some (5, 1) := by decide +kernel
theorem qc53 : sq_c 53 = 5 := by decide +kernel
theorem qk53_135 : sw_ck 53 135 13 0 1 3 3 = true := by decide +kernel
theorem qg5_138 : sp_fd sp_flT 5 138 = some (5, 5) := by decide +kernel
theorem qf5_142 : (sp_fd sp_flT 5 142).or (sp_fd sp_fnT 5 142) = some (3, 0) := by decide +kernel
theorem qr53 : sq_ret 53 = some .int := by decide +kernel
-- 53: SewingPiles.keep()I
def w69 (T : sw_T) : Option (Int × sw_T) :=
  (w24 25 1 T).bind fun r2 =>
  (sw_pb r2 0 5 1).bind fun T3 =>
  some (((T3 1 0), T3))
theorem A53 {G : sp_G} {z n : Nat} (hn : 221 ≤ n) {T : sw_T} {K : sw_K} {res : Int × sw_T} {Q : sp_R → sp_M → Prop} (h : w69 T = some res) (kk : Q (.inl (some (.int (Int32.ofInt res.1)))) (sw_M z n sw_Ft res.2 K)) : sq_go G 53 0 [some (.ref (z + 0))] [] (sw_M z n sw_Ft T K) Q := by
  unfold w69 at h
  refine go_l qd53_0 rfl ?_
  refine ga_gf (v := .ref (z + 25)) qd53_1 qc53 qf5_16 (sw_sl hn (by decide)) rfl rfl ?_
  refine go_l qd53_4 rfl ?_
  refine ga_gf (v := .ref (z + 1)) qd53_5 qc53 qf5_10 (sw_sl hn (by decide)) rfl rfl ?_
  obtain ⟨r2, e1, h⟩ := sw_bind h
  refine ga_kv (a := 25) (as := [.ref (z + 1)]) (rest := []) qd53_8 qk53_135 (sw_sl hn (by decide)) rfl rfl rfl (Nat.le_of_ble_eq_true rfl) (Nat.le_of_ble_eq_true rfl) rfl (A13 hn (by decide) (by decide) e1 (sw_bk0 ?_))
  refine go_l qd53_11 rfl ?_
  refine go_s qd53_12 rfl ?_
  obtain ⟨T3, e4, h⟩ := sw_bind h
  refine ga_pfb qd53_13 qc53 qg5_138 (sw_sl hn (by decide)) rfl qi5_5 e4 ?_
  refine go_l qd53_16 rfl ?_
  refine ga_gf (v := .ref (z + 1)) qd53_17 qc53 qf5_10 (sw_sl hn (by decide)) rfl rfl ?_
  refine ga_gf (v := .int (Int32.ofInt (T3 1 0))) qd53_20 qc53 qf5_142 (sw_sl hn (by decide)) rfl rfl ?_
  rw [← sw_sj h] at kk
  exact ga_ri qd53_23 qr53 kk
theorem qf5_138 : (sp_fd sp_flT 5 138).or (sp_fd sp_fnT 5 138) = some (5, 5) := by decide +kernel
theorem qc54 : sq_c 54 = 5 := by decide +kernel
theorem qt54_7 : sw_tq 54 7 1 = true := by decide +kernel
theorem qk54_51 : sw_ck 54 51 1 0 1 0 3 = true := by decide +kernel
theorem qk54_135 : sw_ck 54 135 13 0 1 3 3 = true := by decide +kernel
theorem qr54 : sq_ret 54 = some .int := by decide +kernel
-- 54: SewingPiles.goBack()I
def w70 (T : sw_T) : Option ((Int × sw_T) ⊕ Nat) :=
  (sw_r1 (T 0 5)).bind fun _u =>
  if (T 0 5) = 0 then
    some (.inr 1)
  else
    (w1 1 T).bind fun r4 =>
    (w24 1 25 r4).bind fun r6 =>
    some (.inl (((r6 1 0), r6)))
theorem A54 {G : sp_G} {z n : Nat} (hn : 221 ≤ n) {T : sw_T} {K : sw_K} {res : (Int × sw_T) ⊕ Nat} {Q : sp_R → sp_M → Prop} (h : w70 T = some res) (kk : ∀ r, res = .inl r → Q (.inl (some (.int (Int32.ofInt r.1)))) (sw_M z n sw_Ft r.2 K)) (kx : ∀ E, res = .inr E → Q (.inr (sw_en E)) (sw_M z n sw_Ft T (sw_th K))) : sq_go G 54 0 [some (.ref (z + 0))] [] (sw_M z n sw_Ft T K) Q := by
  unfold w70 at h
  refine go_l qd54_0 rfl ?_
  refine ga_gf (v := .int (Int32.ofInt (T 0 5))) qd54_1 qc54 qf5_138 (sw_sl hn (by decide)) rfl rfl ?_
  obtain ⟨_u, e1, h⟩ := sw_bind h
  by_cases hb2 : (T 0 5) = 0
  · replace h := sw_ifY hb2 h
    refine ga_zneY (t := 17) qd54_4 e1 hb2 rfl ?_
    exact ga_th qt54_7 (Nat.le_of_ble_eq_true rfl) (kx _ (sw_sj h).symm)
  · replace h := sw_ifN hb2 h
    refine ga_zneN (t := 17) qd54_4 e1 hb2 rfl ?_
    refine go_l qd54_17 rfl ?_
    refine ga_gf (v := .ref (z + 73)) qd54_18 qc54 qf5_25 (sw_sl hn (by decide)) rfl rfl ?_
    refine go_l qd54_21 rfl ?_
    refine ga_gf (v := .ref (z + 1)) qd54_22 qc54 qf5_10 (sw_sl hn (by decide)) rfl rfl ?_
    obtain ⟨r4, e3, h⟩ := sw_bind h
    refine ga_kv (a := 73) (as := [.ref (z + 1)]) (rest := []) qd54_25 qk54_51 (sw_sl hn (by decide)) rfl rfl rfl (Nat.le_of_ble_eq_true rfl) (Nat.le_of_ble_eq_true rfl) rfl (A1 hn (by decide) e3 (sw_bk0 ?_))
    refine go_l qd54_28 rfl ?_
    refine ga_gf (v := .ref (z + 1)) qd54_29 qc54 qf5_10 (sw_sl hn (by decide)) rfl rfl ?_
    refine go_l qd54_32 rfl ?_
    refine ga_gf (v := .ref (z + 25)) qd54_33 qc54 qf5_16 (sw_sl hn (by decide)) rfl rfl ?_
    obtain ⟨r6, e5, h⟩ := sw_bind h
    refine ga_kv (a := 1) (as := [.ref (z + 25)]) (rest := []) qd54_36 qk54_135 (sw_sl hn (by decide)) rfl rfl rfl (Nat.le_of_ble_eq_true rfl) (Nat.le_of_ble_eq_true rfl) rfl (A13 hn (by decide) (by decide) e5 (sw_bk0 ?_))
    refine go_l qd54_39 rfl ?_
    refine ga_gf (v := .ref (z + 1)) qd54_40 qc54 qf5_10 (sw_sl hn (by decide)) rfl rfl ?_
    refine ga_gf (v := .int (Int32.ofInt (r6 1 0))) qd54_43 qc54 qf5_142 (sw_sl hn (by decide)) rfl rfl ?_
    exact ga_ri qd54_46 qr54 (kk _ (sw_sj h).symm)
theorem qc55 : sq_c 55 = 5 := by decide +kernel
theorem qf5_147 : (sp_fd sp_flT 5 147).or (sp_fd sp_fnT 5 147) = some (0, 1) := by decide +kernel
theorem qt55_10 : sw_tq 55 10 1 = true := by decide +kernel
theorem qk55_152 : sw_ck 55 152 2 0 1 0 3 = true := by decide +kernel
theorem qr55 : sq_ret 55 = some .int := by decide +kernel
-- 55: SewingPiles.undo()I
def w71 (T : sw_T) : Option ((Int × sw_T) ⊕ Nat) :=
  (sw_r1 (T 73 1)).bind fun _u =>
  if (T 73 1) = 0 then
    some (.inr 1)
  else
    (w2 1 T).bind fun r4 =>
    some (.inl (((r4 73 1), r4)))
theorem A55 {G : sp_G} {z n : Nat} (hn : 221 ≤ n) {T : sw_T} {K : sw_K} {res : (Int × sw_T) ⊕ Nat} {Q : sp_R → sp_M → Prop} (h : w71 T = some res) (kk : ∀ r, res = .inl r → Q (.inl (some (.int (Int32.ofInt r.1)))) (sw_M z n sw_Ft r.2 K)) (kx : ∀ E, res = .inr E → Q (.inr (sw_en E)) (sw_M z n sw_Ft T (sw_th K))) : sq_go G 55 0 [some (.ref (z + 0))] [] (sw_M z n sw_Ft T K) Q := by
  unfold w71 at h
  refine go_l qd55_0 rfl ?_
  refine ga_gf (v := .ref (z + 73)) qd55_1 qc55 qf5_25 (sw_sl hn (by decide)) rfl rfl ?_
  refine ga_gf (v := .int (Int32.ofInt (T 73 1))) qd55_4 qc55 qf5_147 (sw_sl hn (by decide)) rfl rfl ?_
  obtain ⟨_u, e1, h⟩ := sw_bind h
  by_cases hb2 : (T 73 1) = 0
  · replace h := sw_ifY hb2 h
    refine ga_zneY (t := 20) qd55_7 e1 hb2 rfl ?_
    exact ga_th qt55_10 (Nat.le_of_ble_eq_true rfl) (kx _ (sw_sj h).symm)
  · replace h := sw_ifN hb2 h
    refine ga_zneN (t := 20) qd55_7 e1 hb2 rfl ?_
    refine go_l qd55_20 rfl ?_
    refine ga_gf (v := .ref (z + 73)) qd55_21 qc55 qf5_25 (sw_sl hn (by decide)) rfl rfl ?_
    refine go_l qd55_24 rfl ?_
    refine ga_gf (v := .ref (z + 1)) qd55_25 qc55 qf5_10 (sw_sl hn (by decide)) rfl rfl ?_
    obtain ⟨r4, e3, h⟩ := sw_bind h
    refine ga_kv (a := 73) (as := [.ref (z + 1)]) (rest := []) qd55_28 qk55_152 (sw_sl hn (by decide)) rfl rfl rfl (Nat.le_of_ble_eq_true rfl) (Nat.le_of_ble_eq_true rfl) rfl (A2 hn (by decide) e3 (sw_bk0 ?_))
    refine go_l qd55_31 rfl ?_
    refine ga_gf (v := .ref (z + 73)) qd55_32 qc55 qf5_25 (sw_sl hn (by decide)) rfl rfl ?_
    refine ga_gf (v := .int (Int32.ofInt (r4 73 1))) qd55_35 qc55 qf5_147 (sw_sl hn (by decide)) rfl rfl ?_
    exact ga_ri qd55_38 qr55 (kk _ (sw_sj h).symm)
theorem qk56_59 : sw_ck 56 59 65 0 1 5 2 = true := by decide +kernel
theorem qt56_15 : sw_tq 56 15 0 = true := by decide +kernel
theorem qc56 : sq_c 56 = 5 := by decide +kernel
theorem qk56_157 : sw_ck 56 157 30 0 2 3 3 = true := by decide +kernel
theorem qr56 : sq_ret 56 = some .int := by decide +kernel
theorem qn56 : sw_nh 56 = true := by decide +kernel
-- 56: SewingPiles.seamstress(II)I
def w72 (T : sw_T) (p1 : Int) (p2 : Int) : Option ((Int) ⊕ Nat) :=
  (w90 T p1).bind fun r2 =>
  sw_el r2 (fun r3 =>
    (sw_r1 p2).bind fun _u =>
    if p2 < 0 then
      some (.inr 0)
    else
      (sw_r2 p2 10).bind fun _u =>
      if p2 < 10 then
        (w42 1 T p1 p2).bind fun r12 =>
        some (.inl (r12))
      else
        some (.inr 0)
  ) (fun E4 =>
  some (.inr E4))
theorem A56 {G : sp_G} {z n : Nat} (hn : 221 ≤ n) {T : sw_T} {K : sw_K} {p1 : Int} {p2 : Int} {res : (Int) ⊕ Nat} {Q : sp_R → sp_M → Prop} (h : w72 T p1 p2 = some res) (kk : ∀ r, res = .inl r → Q (.inl (some (.int (Int32.ofInt r)))) (sw_M z n sw_Ft T K)) (kx : ∀ E, res = .inr E → Q (.inr (sw_en E)) (sw_M z n sw_Ft T (sw_th K))) : sq_go G 56 0 [some (.ref (z + 0)), some (.int (Int32.ofInt p1)), some (.int (Int32.ofInt p2))] [] (sw_M z n sw_Ft T K) Q := by
  unfold w72 at h
  refine go_l qd56_0 rfl ?_
  refine go_l qd56_1 rfl ?_
  obtain ⟨r2, e1, h⟩ := sw_bind h
  refine ga_kv (a := 0) (as := [.int (Int32.ofInt p1)]) (rest := []) qd56_2 qk56_59 (sw_sl hn (by decide)) rfl rfl rfl (Nat.le_of_ble_eq_true rfl) (Nat.le_of_ble_eq_true rfl) rfl (A65 hn e1 (fun r3 g5 => ?_) (fun E4 g6 => ?_))
  · refine sw_bk0 ?_
    replace h := sw_elL g5 h
    refine go_l qd56_5 rfl ?_
    obtain ⟨_u, e7, h⟩ := sw_bind h
    by_cases hb8 : p2 < 0
    · replace h := sw_ifY hb8 h
      refine ga_zltY (t := 15) qd56_6 e7 hb8 rfl ?_
      exact ga_th qt56_15 (Nat.le_of_ble_eq_true rfl) (kx _ (sw_sj h).symm)
    · replace h := sw_ifN hb8 h
      refine ga_zltN (t := 15) qd56_6 e7 hb8 rfl ?_
      refine go_l qd56_9 rfl ?_
      refine ga_k8 qd56_10 rfl ?_
      obtain ⟨_u, e9, h⟩ := sw_bind h
      by_cases hb10 : p2 < 10
      · replace h := sw_ifY hb10 h
        refine ga_cltY (t := 25) qd56_12 e9 hb10 rfl ?_
        refine go_l qd56_25 rfl ?_
        refine ga_gf (v := .ref (z + 1)) qd56_26 qc56 qf5_10 (sw_sl hn (by decide)) rfl rfl ?_
        refine go_l qd56_29 rfl ?_
        refine go_l qd56_30 rfl ?_
        obtain ⟨r12, e11, h⟩ := sw_bind h
        refine ga_kv (a := 1) (as := [.int (Int32.ofInt p1), .int (Int32.ofInt p2)]) (rest := []) qd56_31 qk56_157 (sw_sl hn (by decide)) rfl rfl rfl (Nat.le_of_ble_eq_true rfl) (Nat.le_of_ble_eq_true rfl) rfl (A30 hn (by decide) e11 (sw_bkv ?_))
        exact ga_ri qd56_34 qr56 (kk _ (sw_sj h).symm)
      · replace h := sw_ifN hb10 h
        refine ga_cltN (t := 25) qd56_12 e9 hb10 rfl ?_
        exact ga_th qt56_15 (Nat.le_of_ble_eq_true rfl) (kx _ (sw_sj h).symm)
  · replace h := sw_elR g6 h
    exact sw_thn qn56 (kx _ (sw_sj h).symm)
theorem qk57_59 : sw_ck 57 59 65 0 1 5 2 = true := by decide +kernel
theorem qt57_9 : sw_tq 57 9 0 = true := by decide +kernel
theorem qc57 : sq_c 57 = 5 := by decide +kernel
theorem qf5_162 : (sp_fd sp_flT 5 162).or (sp_fd sp_fnT 5 162) = some (3, 13) := by decide +kernel
theorem qk57_166 : sw_ck 57 166 8 0 2 2 3 = true := by decide +kernel
theorem qr57 : sq_ret 57 = some .int := by decide +kernel
theorem qn57 : sw_nh 57 = true := by decide +kernel
-- 57: SewingPiles.pile(II)I
def w73 (T : sw_T) (p1 : Int) (p2 : Int) : Option ((Int) ⊕ Nat) :=
  (w90 T p1).bind fun r2 =>
  sw_el r2 (fun r3 =>
    (sw_r1 p2).bind fun _u =>
    if p2 < 0 then
      some (.inr 0)
    else
      (w19 1 T p1 p2).bind fun r10 =>
      some (.inl (r10))
  ) (fun E4 =>
  some (.inr E4))
theorem A57 {G : sp_G} {z n : Nat} (hn : 221 ≤ n) {T : sw_T} {K : sw_K} {p1 : Int} {p2 : Int} {res : (Int) ⊕ Nat} {Q : sp_R → sp_M → Prop} (h : w73 T p1 p2 = some res) (kk : ∀ r, res = .inl r → Q (.inl (some (.int (Int32.ofInt r)))) (sw_M z n sw_Ft T K)) (kx : ∀ E, res = .inr E → Q (.inr (sw_en E)) (sw_M z n sw_Ft T (sw_th K))) : sq_go G 57 0 [some (.ref (z + 0)), some (.int (Int32.ofInt p1)), some (.int (Int32.ofInt p2))] [] (sw_M z n sw_Ft T K) Q := by
  unfold w73 at h
  refine go_l qd57_0 rfl ?_
  refine go_l qd57_1 rfl ?_
  obtain ⟨r2, e1, h⟩ := sw_bind h
  refine ga_kv (a := 0) (as := [.int (Int32.ofInt p1)]) (rest := []) qd57_2 qk57_59 (sw_sl hn (by decide)) rfl rfl rfl (Nat.le_of_ble_eq_true rfl) (Nat.le_of_ble_eq_true rfl) rfl (A65 hn e1 (fun r3 g5 => ?_) (fun E4 g6 => ?_))
  · refine sw_bk0 ?_
    replace h := sw_elL g5 h
    refine go_l qd57_5 rfl ?_
    obtain ⟨_u, e7, h⟩ := sw_bind h
    by_cases hb8 : p2 < 0
    · replace h := sw_ifY hb8 h
      refine ga_zgeY (t := 19) qd57_6 e7 hb8 rfl ?_
      exact ga_th qt57_9 (Nat.le_of_ble_eq_true rfl) (kx _ (sw_sj h).symm)
    · replace h := sw_ifN hb8 h
      refine ga_zgeN (t := 19) qd57_6 e7 hb8 rfl ?_
      refine go_l qd57_19 rfl ?_
      refine ga_gf (v := .ref (z + 1)) qd57_20 qc57 qf5_10 (sw_sl hn (by decide)) rfl rfl ?_
      refine ga_gf (v := .ref (z + 11)) qd57_23 qc57 qf5_162 (sw_sl hn (by decide)) rfl rfl ?_
      refine go_l qd57_26 rfl ?_
      refine go_l qd57_27 rfl ?_
      obtain ⟨r10, e9, h⟩ := sw_bind h
      refine ga_kv (a := 11) (as := [.int (Int32.ofInt p1), .int (Int32.ofInt p2)]) (rest := []) qd57_28 qk57_166 (sw_sl hn (by decide)) rfl rfl rfl (Nat.le_of_ble_eq_true rfl) (Nat.le_of_ble_eq_true rfl) rfl (A8 hn (by decide) e9 (sw_bkv ?_))
      exact ga_ri qd57_31 qr57 (kk _ (sw_sj h).symm)
  · replace h := sw_elR g6 h
    exact sw_thn qn57 (kx _ (sw_sj h).symm)
theorem qt58_18 : sw_tq 58 18 2 = true := by decide +kernel
theorem qc58 : sq_c 58 = 5 := by decide +kernel
theorem qf5_171 : (sp_fd sp_flT 5 171).or (sp_fd sp_fnT 5 171) = some (3, 14) := by decide +kernel
theorem qf5_175 : (sp_fd sp_flT 5 175).or (sp_fd sp_fnT 5 175) = some (4, 0) := by decide +kernel
theorem qt58_37 : sw_tq 58 37 0 = true := by decide +kernel
theorem qk58_187 : sw_ck 58 187 44 0 2 4 3 = true := by decide +kernel
theorem qr58 : sq_ret 58 = some .int := by decide +kernel
-- 58: SewingPiles.shirt(II)I
def w74 (T : sw_T) (p1 : Int) (p2 : Int) : Option ((Int) ⊕ Nat) :=
  (sw_r1 p1).bind fun _u =>
  if p1 < 0 then
    some (.inr 2)
  else
    (sw_r2 p1 (T 21 0)).bind fun _u =>
    if p1 < (T 21 0) then
      (sw_r1 p2).bind fun _u =>
      if p2 < 0 then
        some (.inr 0)
      else
        (sw_r2 p2 3).bind fun _u =>
        if p2 < 3 then
          (w56 1 T p1 p2).bind fun r10 =>
          some (.inl (r10))
        else
          some (.inr 0)
    else
      some (.inr 2)
theorem A58 {G : sp_G} {z n : Nat} (hn : 221 ≤ n) {T : sw_T} {K : sw_K} {p1 : Int} {p2 : Int} {res : (Int) ⊕ Nat} {Q : sp_R → sp_M → Prop} (h : w74 T p1 p2 = some res) (kk : ∀ r, res = .inl r → Q (.inl (some (.int (Int32.ofInt r)))) (sw_M z n sw_Ft T K)) (kx : ∀ E, res = .inr E → Q (.inr (sw_en E)) (sw_M z n sw_Ft T (sw_th K))) : sq_go G 58 0 [some (.ref (z + 0)), some (.int (Int32.ofInt p1)), some (.int (Int32.ofInt p2))] [] (sw_M z n sw_Ft T K) Q := by
  unfold w74 at h
  refine go_l qd58_0 rfl ?_
  obtain ⟨_u, e1, h⟩ := sw_bind h
  by_cases hb2 : p1 < 0
  · replace h := sw_ifY hb2 h
    refine ga_zltY (t := 18) qd58_1 e1 hb2 rfl ?_
    exact ga_th qt58_18 (Nat.le_of_ble_eq_true rfl) (kx _ (sw_sj h).symm)
  · replace h := sw_ifN hb2 h
    refine ga_zltN (t := 18) qd58_1 e1 hb2 rfl ?_
    refine go_l qd58_4 rfl ?_
    refine go_l qd58_5 rfl ?_
    refine ga_gf (v := .ref (z + 1)) qd58_6 qc58 qf5_10 (sw_sl hn (by decide)) rfl rfl ?_
    refine ga_gf (v := .ref (z + 21)) qd58_9 qc58 qf5_171 (sw_sl hn (by decide)) rfl rfl ?_
    refine ga_gf (v := .int (Int32.ofInt (T 21 0))) qd58_12 qc58 qf5_175 (sw_sl hn (by decide)) rfl rfl ?_
    obtain ⟨_u, e3, h⟩ := sw_bind h
    by_cases hb4 : p1 < (T 21 0)
    · replace h := sw_ifY hb4 h
      refine ga_cltY (t := 28) qd58_15 e3 hb4 rfl ?_
      refine go_l qd58_28 rfl ?_
      obtain ⟨_u, e5, h⟩ := sw_bind h
      by_cases hb6 : p2 < 0
      · replace h := sw_ifY hb6 h
        refine ga_zltY (t := 37) qd58_29 e5 hb6 rfl ?_
        exact ga_th qt58_37 (Nat.le_of_ble_eq_true rfl) (kx _ (sw_sj h).symm)
      · replace h := sw_ifN hb6 h
        refine ga_zltN (t := 37) qd58_29 e5 hb6 rfl ?_
        refine go_l qd58_32 rfl ?_
        refine go_s qd58_33 rfl ?_
        obtain ⟨_u, e7, h⟩ := sw_bind h
        by_cases hb8 : p2 < 3
        · replace h := sw_ifY hb8 h
          refine ga_cltY (t := 47) qd58_34 e7 hb8 rfl ?_
          refine go_l qd58_47 rfl ?_
          refine ga_gf (v := .ref (z + 1)) qd58_48 qc58 qf5_10 (sw_sl hn (by decide)) rfl rfl ?_
          refine ga_gf (v := .ref (z + 21)) qd58_51 qc58 qf5_171 (sw_sl hn (by decide)) rfl rfl ?_
          refine go_l qd58_54 rfl ?_
          refine go_l qd58_55 rfl ?_
          obtain ⟨r10, e9, h⟩ := sw_bind h
          refine ga_kv (a := 21) (as := [.int (Int32.ofInt p1), .int (Int32.ofInt p2)]) (rest := []) qd58_56 qk58_187 (sw_sl hn (by decide)) rfl rfl rfl (Nat.le_of_ble_eq_true rfl) (Nat.le_of_ble_eq_true rfl) rfl (A44 hn (by decide) e9 (sw_bkv ?_))
          exact ga_ri qd58_59 qr58 (kk _ (sw_sj h).symm)
        · replace h := sw_ifN hb8 h
          refine ga_cltN (t := 47) qd58_34 e7 hb8 rfl ?_
          exact ga_th qt58_37 (Nat.le_of_ble_eq_true rfl) (kx _ (sw_sj h).symm)
    · replace h := sw_ifN hb4 h
      refine ga_cltN (t := 28) qd58_15 e3 hb4 rfl ?_
      exact ga_th qt58_18 (Nat.le_of_ble_eq_true rfl) (kx _ (sw_sj h).symm)
theorem qt59_10 : sw_tq 59 10 0 = true := by decide +kernel
theorem qc59 : sq_c 59 = 5 := by decide +kernel
theorem qr59 : sq_ret 59 = some .int := by decide +kernel
theorem qk59_192 : sw_ck 59 192 31 0 1 3 2 = true := by decide +kernel
-- 59: SewingPiles.count(I)I
def w75 (T : sw_T) (p1 : Int) : Option ((Int) ⊕ Nat) :=
  (sw_r1 p1).bind fun _u =>
  if p1 < 0 then
    some (.inr 0)
  else
    (sw_r2 p1 12).bind fun _u =>
    if p1 < 12 then
      (sw_r2 p1 11).bind fun _u =>
      if p1 = 11 then
        some (.inl ((T 73 1)))
      else
        (w43 1 T p1).bind fun r8 =>
        some (.inl (r8))
    else
      some (.inr 0)
theorem A59 {G : sp_G} {z n : Nat} (hn : 221 ≤ n) {T : sw_T} {K : sw_K} {p1 : Int} {res : (Int) ⊕ Nat} {Q : sp_R → sp_M → Prop} (h : w75 T p1 = some res) (kk : ∀ r, res = .inl r → Q (.inl (some (.int (Int32.ofInt r)))) (sw_M z n sw_Ft T K)) (kx : ∀ E, res = .inr E → Q (.inr (sw_en E)) (sw_M z n sw_Ft T (sw_th K))) : sq_go G 59 0 [some (.ref (z + 0)), some (.int (Int32.ofInt p1))] [] (sw_M z n sw_Ft T K) Q := by
  unfold w75 at h
  refine go_l qd59_0 rfl ?_
  obtain ⟨_u, e1, h⟩ := sw_bind h
  by_cases hb2 : p1 < 0
  · replace h := sw_ifY hb2 h
    refine ga_zltY (t := 10) qd59_1 e1 hb2 rfl ?_
    exact ga_th qt59_10 (Nat.le_of_ble_eq_true rfl) (kx _ (sw_sj h).symm)
  · replace h := sw_ifN hb2 h
    refine ga_zltN (t := 10) qd59_1 e1 hb2 rfl ?_
    refine go_l qd59_4 rfl ?_
    refine ga_k8 qd59_5 rfl ?_
    obtain ⟨_u, e3, h⟩ := sw_bind h
    by_cases hb4 : p1 < 12
    · replace h := sw_ifY hb4 h
      refine ga_cltY (t := 20) qd59_7 e3 hb4 rfl ?_
      refine go_l qd59_20 rfl ?_
      refine ga_k8 qd59_21 rfl ?_
      obtain ⟨_u, e5, h⟩ := sw_bind h
      by_cases hb6 : p1 = 11
      · replace h := sw_ifY hb6 h
        refine ga_cneY (t := 36) qd59_23 e5 hb6 rfl ?_
        refine go_l qd59_26 rfl ?_
        refine ga_gf (v := .ref (z + 73)) qd59_27 qc59 qf5_25 (sw_sl hn (by decide)) rfl rfl ?_
        refine ga_gf (v := .int (Int32.ofInt (T 73 1))) qd59_30 qc59 qf5_147 (sw_sl hn (by decide)) rfl rfl ?_
        refine ga_jp (t := 44) qd59_33 rfl ?_
        exact ga_ri qd59_44 qr59 (kk _ (sw_sj h).symm)
      · replace h := sw_ifN hb6 h
        refine ga_cneN (t := 36) qd59_23 e5 hb6 rfl ?_
        refine go_l qd59_36 rfl ?_
        refine ga_gf (v := .ref (z + 1)) qd59_37 qc59 qf5_10 (sw_sl hn (by decide)) rfl rfl ?_
        refine go_l qd59_40 rfl ?_
        obtain ⟨r8, e7, h⟩ := sw_bind h
        refine ga_kv (a := 1) (as := [.int (Int32.ofInt p1)]) (rest := []) qd59_41 qk59_192 (sw_sl hn (by decide)) rfl rfl rfl (Nat.le_of_ble_eq_true rfl) (Nat.le_of_ble_eq_true rfl) rfl (A31 hn (by decide) e7 (sw_bkv ?_))
        exact ga_ri qd59_44 qr59 (kk _ (sw_sj h).symm)
    · replace h := sw_ifN hb4 h
      refine ga_cltN (t := 20) qd59_7 e3 hb4 rfl ?_
      exact ga_th qt59_10 (Nat.le_of_ble_eq_true rfl) (kx _ (sw_sj h).symm)
theorem qk60_92 : sw_ck 60 92 67 1 1 5 1 = true := by decide +kernel
theorem qc60 : sq_c 60 = 5 := by decide +kernel
theorem qr60 : sq_ret 60 = some .int := by decide +kernel
theorem qn60 : sw_nh 60 = true := by decide +kernel
-- 60: SewingPiles.setting(I)I
def w76 (T : sw_T) (p1 : Int) : Option ((Int) ⊕ Nat) :=
  (w92 T p1).bind fun r2 =>
  sw_el r2 (fun r3 =>
    (sw_ld T 2 3 p1).bind fun v8 =>
    some (.inl (v8))
  ) (fun E4 =>
  some (.inr E4))
theorem A60 {G : sp_G} {z n : Nat} (hn : 221 ≤ n) {T : sw_T} {K : sw_K} {p1 : Int} {res : (Int) ⊕ Nat} {Q : sp_R → sp_M → Prop} (h : w76 T p1 = some res) (kk : ∀ r, res = .inl r → Q (.inl (some (.int (Int32.ofInt r)))) (sw_M z n sw_Ft T K)) (kx : ∀ E, res = .inr E → Q (.inr (sw_en E)) (sw_M z n sw_Ft T (sw_th K))) : sq_go G 60 0 [some (.ref (z + 0)), some (.int (Int32.ofInt p1))] [] (sw_M z n sw_Ft T K) Q := by
  unfold w76 at h
  refine go_l qd60_0 rfl ?_
  obtain ⟨r2, e1, h⟩ := sw_bind h
  refine ga_kS (as := [.int (Int32.ofInt p1)]) (rest := []) qd60_1 qk60_92 rfl rfl (Nat.le_of_ble_eq_true rfl) (Nat.le_of_ble_eq_true rfl) rfl (A67 hn e1 (fun r3 g5 => ?_) (fun E4 g6 => ?_))
  · refine sw_bk0 ?_
    replace h := sw_elL g5 h
    refine go_l qd60_4 rfl ?_
    refine ga_gf (v := .ref (z + 1)) qd60_5 qc60 qf5_10 (sw_sl hn (by decide)) rfl rfl ?_
    refine ga_gf (v := .ref (z + 2)) qd60_8 qc60 qf5_104 (sw_sl hn (by decide)) rfl rfl ?_
    refine go_l qd60_11 rfl ?_
    obtain ⟨v8, e7, h⟩ := sw_bind h
    refine ga_iald qd60_12 (sw_sl hn (by decide)) e7 ?_
    exact ga_ri qd60_13 qr60 (kk _ (sw_sj h).symm)
  · replace h := sw_elR g6 h
    exact sw_thn qn60 (kx _ (sw_sj h).symm)
theorem qk61_59 : sw_ck 61 59 65 0 1 5 2 = true := by decide +kernel
theorem qc61 : sq_c 61 = 5 := by decide +kernel
theorem qk61_195 : sw_ck 61 195 27 0 1 3 6 = true := by decide +kernel
theorem qr61 : sq_ret 61 = some .int := by decide +kernel
theorem qn61 : sw_nh 61 = true := by decide +kernel
-- 61: SewingPiles.choice(I)I
def w77 (T : sw_T) (p1 : Int) : Option ((Int) ⊕ Nat) :=
  (w90 T p1).bind fun r2 =>
  sw_el r2 (fun r3 =>
    (w38 1 T p1).bind fun r8 =>
    some (.inl (r8))
  ) (fun E4 =>
  some (.inr E4))
theorem A61 {G : sp_G} {z n : Nat} (hn : 221 ≤ n) {T : sw_T} {K : sw_K} {p1 : Int} {res : (Int) ⊕ Nat} {Q : sp_R → sp_M → Prop} (h : w77 T p1 = some res) (kk : ∀ r, res = .inl r → Q (.inl (some (.int (Int32.ofInt r)))) (sw_M z n sw_Ft T K)) (kx : ∀ E, res = .inr E → Q (.inr (sw_en E)) (sw_M z n sw_Ft T (sw_th K))) : sq_go G 61 0 [some (.ref (z + 0)), some (.int (Int32.ofInt p1))] [] (sw_M z n sw_Ft T K) Q := by
  unfold w77 at h
  refine go_l qd61_0 rfl ?_
  refine go_l qd61_1 rfl ?_
  obtain ⟨r2, e1, h⟩ := sw_bind h
  refine ga_kv (a := 0) (as := [.int (Int32.ofInt p1)]) (rest := []) qd61_2 qk61_59 (sw_sl hn (by decide)) rfl rfl rfl (Nat.le_of_ble_eq_true rfl) (Nat.le_of_ble_eq_true rfl) rfl (A65 hn e1 (fun r3 g5 => ?_) (fun E4 g6 => ?_))
  · refine sw_bk0 ?_
    replace h := sw_elL g5 h
    refine go_l qd61_5 rfl ?_
    refine ga_gf (v := .ref (z + 1)) qd61_6 qc61 qf5_10 (sw_sl hn (by decide)) rfl rfl ?_
    refine go_l qd61_9 rfl ?_
    obtain ⟨r8, e7, h⟩ := sw_bind h
    refine ga_kv (a := 1) (as := [.int (Int32.ofInt p1)]) (rest := []) qd61_10 qk61_195 (sw_sl hn (by decide)) rfl rfl rfl (Nat.le_of_ble_eq_true rfl) (Nat.le_of_ble_eq_true rfl) rfl (A27 hn (by decide) e7 (sw_bkv ?_))
    exact ga_ri qd61_13 qr61 (kk _ (sw_sj h).symm)
  · replace h := sw_elR g6 h
    exact sw_thn qn61 (kx _ (sw_sj h).symm)
theorem qt62_21 : sw_tq 62 21 0 = true := by decide +kernel
theorem qf5_19 : (sp_fd sp_flT 5 19).or (sp_fd sp_fnT 5 19) = some (5, 2) := by decide +kernel
theorem qc62 : sq_c 62 = 5 := by decide +kernel
theorem qk62_135 : sw_ck 62 135 13 0 1 3 3 = true := by decide +kernel
theorem qk62_89 : sw_ck 62 89 21 0 1 3 3 = true := by decide +kernel
theorem qk62_85 : sw_ck 62 85 33 0 0 3 1 = true := by decide +kernel
theorem qr62 : sq_ret 62 = some .int := by decide +kernel
theorem qf5_204 : (sp_fd sp_flT 5 204).or (sp_fd sp_fnT 5 204) = some (3, 10) := by decide +kernel
theorem qk62_207 : sw_ck 62 207 36 0 1 3 4 = true := by decide +kernel
theorem qf5_211 : (sp_fd sp_flT 5 211).or (sp_fd sp_fnT 5 211) = some (3, 12) := by decide +kernel
theorem qk62_214 : sw_ck 62 214 45 0 0 4 3 = true := by decide +kernel
-- 62: SewingPiles.ifPassed(II)I
def w81 (T : sw_T) (p1 : Int) (p2 : Int) : Option ((Int × sw_T) ⊕ Nat) :=
  (sw_r2 p1 1).bind fun _u =>
  if p1 < 1 then
    some (.inr 0)
  else
    (sw_r2 p1 200).bind fun _u =>
    if 200 < p1 then
      some (.inr 0)
    else
      (sw_r1 p2).bind fun _u =>
      if p2 < 0 then
        some (.inr 0)
      else
        (sw_r2 p2 4).bind fun _u =>
        if p2 < 4 then
          (w24 49 1 T).bind fun r10 =>
          (w32 49 r10 p1).bind fun r12 =>
          (sw_r1 p2).bind fun _u =>
          if p2 = 0 then
            (w45 49 r12).bind fun r16 =>
            (w45 1 r12).bind fun r18 =>
            some (.inl (((r16 - r18), r12)))
          else
          if p2 = 1 then
            (w48 49 56 r12).bind fun r21 =>
            (w48 1 8 r12).bind fun r23 =>
            some (.inl (((r21 - r23), r12)))
          else
          if p2 = 2 then
            (w48 49 58 r12).bind fun r26 =>
            (w48 1 10 r12).bind fun r28 =>
            some (.inl (((r26 - r28), r12)))
          else
            (w57 49 r12).bind fun r30 =>
            some (.inl ((r30, r12)))
        else
          some (.inr 0)
theorem A62 {G : sp_G} {z n : Nat} (hn : 221 ≤ n) {T : sw_T} {K : sw_K} {p1 : Int} {p2 : Int} {res : (Int × sw_T) ⊕ Nat} {Q : sp_R → sp_M → Prop} (h : w81 T p1 p2 = some res) (kk : ∀ r, res = .inl r → Q (.inl (some (.int (Int32.ofInt r.1)))) (sw_M z n sw_Ft r.2 K)) (kx : ∀ E, res = .inr E → Q (.inr (sw_en E)) (sw_M z n sw_Ft T (sw_th K))) : sq_go G 62 0 [some (.ref (z + 0)), some (.int (Int32.ofInt p1)), some (.int (Int32.ofInt p2))] [] (sw_M z n sw_Ft T K) Q := by
  unfold w81 at h
  refine go_l qd62_0 rfl ?_
  refine go_s qd62_1 rfl ?_
  obtain ⟨_u, e1, h⟩ := sw_bind h
  by_cases hb2 : p1 < 1
  · replace h := sw_ifY hb2 h
    refine ga_cltY (t := 21) qd62_2 e1 hb2 rfl ?_
    exact ga_th qt62_21 (Nat.le_of_ble_eq_true rfl) (kx _ (sw_sj h).symm)
  · replace h := sw_ifN hb2 h
    refine ga_cltN (t := 21) qd62_2 e1 hb2 rfl ?_
    refine go_l qd62_5 rfl ?_
    refine ga_k16 qd62_6 rfl ?_
    obtain ⟨_u, e3, h⟩ := sw_bind h
    by_cases hb4 : 200 < p1
    · replace h := sw_ifY hb4 h
      refine ga_cgtY (t := 21) qd62_9 e3 hb4 rfl ?_
      exact ga_th qt62_21 (Nat.le_of_ble_eq_true rfl) (kx _ (sw_sj h).symm)
    · replace h := sw_ifN hb4 h
      refine ga_cgtN (t := 21) qd62_9 e3 hb4 rfl ?_
      refine go_l qd62_12 rfl ?_
      obtain ⟨_u, e5, h⟩ := sw_bind h
      by_cases hb6 : p2 < 0
      · replace h := sw_ifY hb6 h
        refine ga_zltY (t := 21) qd62_13 e5 hb6 rfl ?_
        exact ga_th qt62_21 (Nat.le_of_ble_eq_true rfl) (kx _ (sw_sj h).symm)
      · replace h := sw_ifN hb6 h
        refine ga_zltN (t := 21) qd62_13 e5 hb6 rfl ?_
        refine go_l qd62_16 rfl ?_
        refine go_s qd62_17 rfl ?_
        obtain ⟨_u, e7, h⟩ := sw_bind h
        by_cases hb8 : p2 < 4
        · replace h := sw_ifY hb8 h
          refine ga_cltY (t := 31) qd62_18 e7 hb8 rfl ?_
          refine go_l qd62_31 rfl ?_
          refine ga_gf (v := .ref (z + 49)) qd62_32 qc62 qf5_19 (sw_sl hn (by decide)) rfl rfl ?_
          refine go_l qd62_35 rfl ?_
          refine ga_gf (v := .ref (z + 1)) qd62_36 qc62 qf5_10 (sw_sl hn (by decide)) rfl rfl ?_
          obtain ⟨r10, e9, h⟩ := sw_bind h
          refine ga_kv (a := 49) (as := [.ref (z + 1)]) (rest := []) qd62_39 qk62_135 (sw_sl hn (by decide)) rfl rfl rfl (Nat.le_of_ble_eq_true rfl) (Nat.le_of_ble_eq_true rfl) rfl (A13 hn (by decide) (by decide) e9 (sw_bk0 ?_))
          refine go_l qd62_42 rfl ?_
          refine ga_gf (v := .ref (z + 49)) qd62_43 qc62 qf5_19 (sw_sl hn (by decide)) rfl rfl ?_
          refine go_l qd62_46 rfl ?_
          obtain ⟨r12, e11, h⟩ := sw_bind h
          refine ga_kv (a := 49) (as := [.int (Int32.ofInt p1)]) (rest := []) qd62_47 qk62_89 (sw_sl hn (by decide)) rfl rfl rfl (Nat.le_of_ble_eq_true rfl) (Nat.le_of_ble_eq_true rfl) rfl (A21 hn (by decide) e11 (sw_bk0 ?_))
          refine go_l qd62_50 rfl ?_
          obtain ⟨_u, e13, h⟩ := sw_bind h
          by_cases hb14 : p2 = 0
          · replace h := sw_ifY hb14 h
            refine ga_sw (t := 76) qd62_51 rfl hb14 rfl ?_
            refine go_l qd62_76 rfl ?_
            refine ga_gf (v := .ref (z + 49)) qd62_77 qc62 qf5_19 (sw_sl hn (by decide)) rfl rfl ?_
            obtain ⟨r16, e15, h⟩ := sw_bind h
            refine ga_kv (a := 49) (as := []) (rest := []) qd62_80 qk62_85 (sw_sl hn (by decide)) rfl rfl rfl (Nat.le_of_ble_eq_true rfl) (Nat.le_of_ble_eq_true rfl) rfl (A33 hn (by decide) e15 (sw_bkv ?_))
            refine go_l qd62_83 rfl ?_
            refine ga_gf (v := .ref (z + 1)) qd62_84 qc62 qf5_10 (sw_sl hn (by decide)) rfl rfl ?_
            obtain ⟨r18, e17, h⟩ := sw_bind h
            refine ga_kv (a := 1) (as := []) (rest := [.int (Int32.ofInt r16)]) qd62_87 qk62_85 (sw_sl hn (by decide)) rfl rfl rfl (Nat.le_of_ble_eq_true rfl) (Nat.le_of_ble_eq_true rfl) rfl (A33 hn (by decide) e17 (sw_bkv ?_))
            refine ga_isub qd62_90 ?_
            exact ga_ri qd62_91 qr62 (kk _ (sw_sj h).symm)
          · replace h := sw_ifN hb14 h
            by_cases hb19 : p2 = 1
            · replace h := sw_ifY hb19 h
              refine ga_sw (t := 92) qd62_51 rfl hb19 rfl ?_
              refine go_l qd62_92 rfl ?_
              refine ga_gf (v := .ref (z + 49)) qd62_93 qc62 qf5_19 (sw_sl hn (by decide)) rfl rfl ?_
              refine go_l qd62_96 rfl ?_
              refine ga_gf (v := .ref (z + 49)) qd62_97 qc62 qf5_19 (sw_sl hn (by decide)) rfl rfl ?_
              refine ga_gf (v := .ref (z + 56)) qd62_100 qc62 qf5_204 (sw_sl hn (by decide)) rfl rfl ?_
              obtain ⟨r21, e20, h⟩ := sw_bind h
              refine ga_kv (a := 49) (as := [.ref (z + 56)]) (rest := []) qd62_103 qk62_207 (sw_sl hn (by decide)) rfl rfl rfl (Nat.le_of_ble_eq_true rfl) (Nat.le_of_ble_eq_true rfl) rfl (A36 hn (by decide) (sw_sl hn (by decide)) e20 (sw_bkv ?_))
              refine go_l qd62_106 rfl ?_
              refine ga_gf (v := .ref (z + 1)) qd62_107 qc62 qf5_10 (sw_sl hn (by decide)) rfl rfl ?_
              refine go_l qd62_110 rfl ?_
              refine ga_gf (v := .ref (z + 1)) qd62_111 qc62 qf5_10 (sw_sl hn (by decide)) rfl rfl ?_
              refine ga_gf (v := .ref (z + 8)) qd62_114 qc62 qf5_204 (sw_sl hn (by decide)) rfl rfl ?_
              obtain ⟨r23, e22, h⟩ := sw_bind h
              refine ga_kv (a := 1) (as := [.ref (z + 8)]) (rest := [.int (Int32.ofInt r21)]) qd62_117 qk62_207 (sw_sl hn (by decide)) rfl rfl rfl (Nat.le_of_ble_eq_true rfl) (Nat.le_of_ble_eq_true rfl) rfl (A36 hn (by decide) (sw_sl hn (by decide)) e22 (sw_bkv ?_))
              refine ga_isub qd62_120 ?_
              exact ga_ri qd62_121 qr62 (kk _ (sw_sj h).symm)
            · replace h := sw_ifN hb19 h
              by_cases hb24 : p2 = 2
              · replace h := sw_ifY hb24 h
                refine ga_sw (t := 122) qd62_51 rfl hb24 rfl ?_
                refine go_l qd62_122 rfl ?_
                refine ga_gf (v := .ref (z + 49)) qd62_123 qc62 qf5_19 (sw_sl hn (by decide)) rfl rfl ?_
                refine go_l qd62_126 rfl ?_
                refine ga_gf (v := .ref (z + 49)) qd62_127 qc62 qf5_19 (sw_sl hn (by decide)) rfl rfl ?_
                refine ga_gf (v := .ref (z + 58)) qd62_130 qc62 qf5_211 (sw_sl hn (by decide)) rfl rfl ?_
                obtain ⟨r26, e25, h⟩ := sw_bind h
                refine ga_kv (a := 49) (as := [.ref (z + 58)]) (rest := []) qd62_133 qk62_207 (sw_sl hn (by decide)) rfl rfl rfl (Nat.le_of_ble_eq_true rfl) (Nat.le_of_ble_eq_true rfl) rfl (A36 hn (by decide) (sw_sl hn (by decide)) e25 (sw_bkv ?_))
                refine go_l qd62_136 rfl ?_
                refine ga_gf (v := .ref (z + 1)) qd62_137 qc62 qf5_10 (sw_sl hn (by decide)) rfl rfl ?_
                refine go_l qd62_140 rfl ?_
                refine ga_gf (v := .ref (z + 1)) qd62_141 qc62 qf5_10 (sw_sl hn (by decide)) rfl rfl ?_
                refine ga_gf (v := .ref (z + 10)) qd62_144 qc62 qf5_211 (sw_sl hn (by decide)) rfl rfl ?_
                obtain ⟨r28, e27, h⟩ := sw_bind h
                refine ga_kv (a := 1) (as := [.ref (z + 10)]) (rest := [.int (Int32.ofInt r26)]) qd62_147 qk62_207 (sw_sl hn (by decide)) rfl rfl rfl (Nat.le_of_ble_eq_true rfl) (Nat.le_of_ble_eq_true rfl) rfl (A36 hn (by decide) (sw_sl hn (by decide)) e27 (sw_bkv ?_))
                refine ga_isub qd62_150 ?_
                exact ga_ri qd62_151 qr62 (kk _ (sw_sj h).symm)
              · replace h := sw_ifN hb24 h
                refine ga_tsd (t := 152) qd62_51 e13 (by omega) rfl ?_
                refine go_l qd62_152 rfl ?_
                refine ga_gf (v := .ref (z + 49)) qd62_153 qc62 qf5_19 (sw_sl hn (by decide)) rfl rfl ?_
                refine ga_gf (v := .ref (z + 69)) qd62_156 qc62 qf5_171 (sw_sl hn (by decide)) rfl rfl ?_
                obtain ⟨r30, e29, h⟩ := sw_bind h
                refine ga_kv (a := 69) (as := []) (rest := []) qd62_159 qk62_214 (sw_sl hn (by decide)) rfl rfl rfl (Nat.le_of_ble_eq_true rfl) (Nat.le_of_ble_eq_true rfl) rfl (A45 hn (by decide) e29 (sw_bkv ?_))
                exact ga_ri qd62_162 qr62 (kk _ (sw_sj h).symm)
        · replace h := sw_ifN hb8 h
          refine ga_cltN (t := 31) qd62_18 e7 hb8 rfl ?_
          exact ga_th qt62_21 (Nat.le_of_ble_eq_true rfl) (kx _ (sw_sj h).symm)
theorem qc63 : sq_c 63 = 5 := by decide +kernel
theorem qf5_217 : (sp_fd sp_flT 5 217).or (sp_fd sp_fnT 5 217) = some (3, 2) := by decide +kernel
theorem qr63 : sq_ret 63 = some .double := by decide +kernel
theorem qk63_207 : sw_ck 63 207 36 0 1 3 4 = true := by decide +kernel
-- 63: SewingPiles.takenShare()D
def w82 (T : sw_T) : Option (UInt64) :=
  (sw_r1 (T 1 2)).bind fun _u =>
  if (T 1 2) = 0 then
    some ((sp_dc 0))
  else
    (w48 1 8 T).bind fun r4 =>
    (sw_k64 (FP.ddiv (FP.i2d (Int32.ofInt r4)) (FP.i2d (Int32.ofInt (T 1 2))))).bind fun _u =>
    some ((FP.ddiv (FP.i2d (Int32.ofInt r4)) (FP.i2d (Int32.ofInt (T 1 2)))))
theorem A63 {G : sp_G} {z n : Nat} (hn : 221 ≤ n) {T : sw_T} {K : sw_K} {res : UInt64} {Q : sp_R → sp_M → Prop} (h : w82 T = some res) (kk : Q (.inl (some (.double res))) (sw_M z n sw_Ft T K)) : sq_go G 63 0 [some (.ref (z + 0))] [] (sw_M z n sw_Ft T K) Q := by
  unfold w82 at h
  refine go_l qd63_0 rfl ?_
  refine ga_gf (v := .ref (z + 1)) qd63_1 qc63 qf5_10 (sw_sl hn (by decide)) rfl rfl ?_
  refine ga_gf (v := .int (Int32.ofInt (T 1 2))) qd63_4 qc63 qf5_217 (sw_sl hn (by decide)) rfl rfl ?_
  obtain ⟨_u, e1, h⟩ := sw_bind h
  by_cases hb2 : (T 1 2) = 0
  · replace h := sw_ifY hb2 h
    refine ga_zneY (t := 12) qd63_7 e1 hb2 rfl ?_
    refine go_s qd63_10 rfl ?_
    rw [← sw_sj h] at kk
    exact ga_rd qd63_11 qr63 kk
  · replace h := sw_ifN hb2 h
    refine ga_zneN (t := 12) qd63_7 e1 hb2 rfl ?_
    refine go_l qd63_12 rfl ?_
    refine ga_gf (v := .ref (z + 1)) qd63_13 qc63 qf5_10 (sw_sl hn (by decide)) rfl rfl ?_
    refine go_l qd63_16 rfl ?_
    refine ga_gf (v := .ref (z + 1)) qd63_17 qc63 qf5_10 (sw_sl hn (by decide)) rfl rfl ?_
    refine ga_gf (v := .ref (z + 8)) qd63_20 qc63 qf5_204 (sw_sl hn (by decide)) rfl rfl ?_
    obtain ⟨r4, e3, h⟩ := sw_bind h
    refine ga_kv (a := 1) (as := [.ref (z + 8)]) (rest := []) qd63_23 qk63_207 (sw_sl hn (by decide)) rfl rfl rfl (Nat.le_of_ble_eq_true rfl) (Nat.le_of_ble_eq_true rfl) rfl (A36 hn (by decide) (sw_sl hn (by decide)) e3 (sw_bkv ?_))
    refine go_s qd63_26 rfl ?_
    refine go_l qd63_27 rfl ?_
    refine ga_gf (v := .ref (z + 1)) qd63_28 qc63 qf5_10 (sw_sl hn (by decide)) rfl rfl ?_
    refine ga_gf (v := .int (Int32.ofInt (T 1 2))) qd63_31 qc63 qf5_217 (sw_sl hn (by decide)) rfl rfl ?_
    refine go_s qd63_34 rfl ?_
    obtain ⟨_u, e5, h⟩ := sw_bind h
    refine ga_ddiv qd63_35 e5 ?_
    rw [← sw_sj h] at kk
    exact ga_rd qd63_36 qr63 kk
theorem qc64 : sq_c 64 = 5 := by decide +kernel
theorem qk64_220 : sw_ck 64 220 32 0 1 3 4 = true := by decide +kernel
theorem qr64 : sq_ret 64 = some .float := by decide +kernel
-- 64: SewingPiles.evenness()F
def w83_13 (T : sw_T) : Nat → Int → Int → Int → Option (Int × Int)
  | 0, _, _, _ => none
  | m + 1, l1, l2, l3 =>
    (sw_r2 l3 (T 1 1)).bind fun _u =>
    if l3 < (T 1 1) then
      (w44 1 T l3).bind fun r6 =>
      (sw_r2 r6 l1).bind fun _u =>
      if r6 < l1 then
        (sw_r2 r6 l2).bind fun _u =>
        if l2 < r6 then
          w83_13 T m r6 r6 (l3 + 1)
        else
          w83_13 T m r6 l2 (l3 + 1)
      else
        (sw_r2 r6 l2).bind fun _u =>
        if l2 < r6 then
          w83_13 T m l1 r6 (l3 + 1)
        else
          w83_13 T m l1 l2 (l3 + 1)
    else
      some ((l1, l2))
theorem B64_13 {G : sp_G} {z n : Nat} (hn : 221 ≤ n) {T : sw_T} {K : sw_K} {res : Int × Int} {Q : sp_R → sp_M → Prop} (kk : sq_go G 64 66 [none, some (.int (Int32.ofInt res.1)), some (.int (Int32.ofInt res.2)), none, none] [] (sw_M z n sw_Ft T K) Q) : ∀ (m : Nat) (l1 : Int) (l2 : Int) (l3 : Int), w83_13 T m l1 l2 l3 = some res → sq_go G 64 13 [some (.ref (z + 0)), some (.int (Int32.ofInt l1)), some (.int (Int32.ofInt l2)), some (.int (Int32.ofInt l3)), none] [] (sw_M z n sw_Ft T K) Q := by
  intro m
  induction m with
  | zero => intro l1 l2 l3 h; cases h
  | succ m ih =>
    intro l1 l2 l3 h
    rw [w83_13] at h
    refine go_l qd64_13 rfl ?_
    refine go_l qd64_14 rfl ?_
    refine ga_gf (v := .ref (z + 1)) qd64_15 qc64 qf5_10 (sw_sl hn (by decide)) rfl rfl ?_
    refine ga_gf (v := .int (Int32.ofInt (T 1 1))) qd64_18 qc64 qf5_40 (sw_sl hn (by decide)) rfl rfl ?_
    obtain ⟨_u, e3, h⟩ := sw_bind h
    by_cases hb4 : l3 < (T 1 1)
    · replace h := sw_ifY hb4 h
      refine ga_cgeY (t := 66) qd64_21 e3 hb4 rfl ?_
      refine go_l qd64_24 rfl ?_
      refine ga_gf (v := .ref (z + 1)) qd64_25 qc64 qf5_10 (sw_sl hn (by decide)) rfl rfl ?_
      refine go_l qd64_28 rfl ?_
      obtain ⟨r6, e5, h⟩ := sw_bind h
      refine ga_kv (a := 1) (as := [.int (Int32.ofInt l3)]) (rest := []) qd64_29 qk64_220 (sw_sl hn (by decide)) rfl rfl rfl (Nat.le_of_ble_eq_true rfl) (Nat.le_of_ble_eq_true rfl) rfl (A32 hn (by decide) e5 (sw_bkv ?_))
      refine go_l (L' := [some (.ref (z + 0)), some (.int (Int32.ofInt l1)), some (.int (Int32.ofInt l2)), some (.int (Int32.ofInt l3)), some (.int (Int32.ofInt r6))]) (st' := []) qd64_32 rfl ?_
      refine go_l qd64_34 rfl ?_
      refine go_l qd64_36 rfl ?_
      obtain ⟨_u, e7, h⟩ := sw_bind h
      by_cases hb8 : r6 < l1
      · replace h := sw_ifY hb8 h
        refine ga_cgeY (t := 45) qd64_37 e7 hb8 rfl ?_
        refine go_l qd64_40 rfl ?_
        refine ga_jp (t := 46) qd64_42 rfl ?_
        refine go_l (L' := [some (.ref (z + 0)), some (.int (Int32.ofInt r6)), some (.int (Int32.ofInt l2)), some (.int (Int32.ofInt l3)), some (.int (Int32.ofInt r6))]) (st' := []) qd64_46 rfl ?_
        refine go_l qd64_47 rfl ?_
        refine go_l qd64_49 rfl ?_
        obtain ⟨_u, e9, h⟩ := sw_bind h
        by_cases hb10 : l2 < r6
        · replace h := sw_ifY hb10 h
          refine ga_cleY (t := 58) qd64_50 e9 hb10 rfl ?_
          refine go_l qd64_53 rfl ?_
          refine ga_jp (t := 59) qd64_55 rfl ?_
          refine go_l (L' := [some (.ref (z + 0)), some (.int (Int32.ofInt r6)), some (.int (Int32.ofInt r6)), some (.int (Int32.ofInt l3)), some (.int (Int32.ofInt r6))]) (st' := []) qd64_59 rfl ?_
          refine ga_ii (L' := [some (.ref (z + 0)), some (.int (Int32.ofInt r6)), some (.int (Int32.ofInt r6)), some (.int (Int32.ofInt (l3 + 1))), some (.int (Int32.ofInt r6))]) qd64_60 rfl rfl ?_
          refine ga_jp (t := 13) qd64_63 rfl ?_
          exact sq_weak (L := [some (.ref (z + 0)), some (.int (Int32.ofInt r6)), some (.int (Int32.ofInt r6)), some (.int (Int32.ofInt (l3 + 1))), none]) ⟨rfl, rfl, rfl, rfl, trivial⟩ (ih _ _ _ h)
        · replace h := sw_ifN hb10 h
          refine ga_cleN (t := 58) qd64_50 e9 hb10 rfl ?_
          refine go_l qd64_58 rfl ?_
          refine go_l (L' := [some (.ref (z + 0)), some (.int (Int32.ofInt r6)), some (.int (Int32.ofInt l2)), some (.int (Int32.ofInt l3)), some (.int (Int32.ofInt r6))]) (st' := []) qd64_59 rfl ?_
          refine ga_ii (L' := [some (.ref (z + 0)), some (.int (Int32.ofInt r6)), some (.int (Int32.ofInt l2)), some (.int (Int32.ofInt (l3 + 1))), some (.int (Int32.ofInt r6))]) qd64_60 rfl rfl ?_
          refine ga_jp (t := 13) qd64_63 rfl ?_
          exact sq_weak (L := [some (.ref (z + 0)), some (.int (Int32.ofInt r6)), some (.int (Int32.ofInt l2)), some (.int (Int32.ofInt (l3 + 1))), none]) ⟨rfl, rfl, rfl, rfl, trivial⟩ (ih _ _ _ h)
      · replace h := sw_ifN hb8 h
        refine ga_cgeN (t := 45) qd64_37 e7 hb8 rfl ?_
        refine go_l qd64_45 rfl ?_
        refine go_l (L' := [some (.ref (z + 0)), some (.int (Int32.ofInt l1)), some (.int (Int32.ofInt l2)), some (.int (Int32.ofInt l3)), some (.int (Int32.ofInt r6))]) (st' := []) qd64_46 rfl ?_
        refine go_l qd64_47 rfl ?_
        refine go_l qd64_49 rfl ?_
        obtain ⟨_u, e11, h⟩ := sw_bind h
        by_cases hb12 : l2 < r6
        · replace h := sw_ifY hb12 h
          refine ga_cleY (t := 58) qd64_50 e11 hb12 rfl ?_
          refine go_l qd64_53 rfl ?_
          refine ga_jp (t := 59) qd64_55 rfl ?_
          refine go_l (L' := [some (.ref (z + 0)), some (.int (Int32.ofInt l1)), some (.int (Int32.ofInt r6)), some (.int (Int32.ofInt l3)), some (.int (Int32.ofInt r6))]) (st' := []) qd64_59 rfl ?_
          refine ga_ii (L' := [some (.ref (z + 0)), some (.int (Int32.ofInt l1)), some (.int (Int32.ofInt r6)), some (.int (Int32.ofInt (l3 + 1))), some (.int (Int32.ofInt r6))]) qd64_60 rfl rfl ?_
          refine ga_jp (t := 13) qd64_63 rfl ?_
          exact sq_weak (L := [some (.ref (z + 0)), some (.int (Int32.ofInt l1)), some (.int (Int32.ofInt r6)), some (.int (Int32.ofInt (l3 + 1))), none]) ⟨rfl, rfl, rfl, rfl, trivial⟩ (ih _ _ _ h)
        · replace h := sw_ifN hb12 h
          refine ga_cleN (t := 58) qd64_50 e11 hb12 rfl ?_
          refine go_l qd64_58 rfl ?_
          refine go_l (L' := [some (.ref (z + 0)), some (.int (Int32.ofInt l1)), some (.int (Int32.ofInt l2)), some (.int (Int32.ofInt l3)), some (.int (Int32.ofInt r6))]) (st' := []) qd64_59 rfl ?_
          refine ga_ii (L' := [some (.ref (z + 0)), some (.int (Int32.ofInt l1)), some (.int (Int32.ofInt l2)), some (.int (Int32.ofInt (l3 + 1))), some (.int (Int32.ofInt r6))]) qd64_60 rfl rfl ?_
          refine ga_jp (t := 13) qd64_63 rfl ?_
          exact sq_weak (L := [some (.ref (z + 0)), some (.int (Int32.ofInt l1)), some (.int (Int32.ofInt l2)), some (.int (Int32.ofInt (l3 + 1))), none]) ⟨rfl, rfl, rfl, rfl, trivial⟩ (ih _ _ _ h)
    · replace h := sw_ifN hb4 h
      refine ga_cgeN (t := 66) qd64_21 e3 hb4 rfl ?_
      rw [← sw_sj h] at kk
      exact sq_weak (L := [none, some (.int (Int32.ofInt l1)), some (.int (Int32.ofInt l2)), none, none]) ⟨rfl, rfl, trivial⟩ kk
def w83 (T : sw_T) : Option (UInt32) :=
  (w44 1 T 0).bind fun r2 =>
  (w83_13 T sw_N r2 r2 1).bind fun x13 =>
  (sw_r1 x13.2).bind fun _u =>
  if x13.2 = 0 then
    some ((sp_fc 1))
  else
    (sw_k32 (FP.fdiv (FP.i2f (Int32.ofInt x13.1)) (FP.i2f (Int32.ofInt x13.2)))).bind fun _u =>
    some ((FP.fdiv (FP.i2f (Int32.ofInt x13.1)) (FP.i2f (Int32.ofInt x13.2))))
theorem A64 {G : sp_G} {z n : Nat} (hn : 221 ≤ n) {T : sw_T} {K : sw_K} {res : UInt32} {Q : sp_R → sp_M → Prop} (h : w83 T = some res) (kk : Q (.inl (some (.float res))) (sw_M z n sw_Ft T K)) : sq_go G 64 0 [some (.ref (z + 0)), none, none, none, none] [] (sw_M z n sw_Ft T K) Q := by
  unfold w83 at h
  refine go_l qd64_0 rfl ?_
  refine ga_gf (v := .ref (z + 1)) qd64_1 qc64 qf5_10 (sw_sl hn (by decide)) rfl rfl ?_
  refine go_s qd64_4 rfl ?_
  obtain ⟨r2, e1, h⟩ := sw_bind h
  refine ga_kv (a := 1) (as := [.int (Int32.ofInt 0)]) (rest := []) qd64_5 qk64_220 (sw_sl hn (by decide)) rfl rfl rfl (Nat.le_of_ble_eq_true rfl) (Nat.le_of_ble_eq_true rfl) rfl (A32 hn (by decide) e1 (sw_bkv ?_))
  refine go_l (L' := [some (.ref (z + 0)), some (.int (Int32.ofInt r2)), none, none, none]) (st' := []) qd64_8 rfl ?_
  refine go_l qd64_9 rfl ?_
  refine go_l (L' := [some (.ref (z + 0)), some (.int (Int32.ofInt r2)), some (.int (Int32.ofInt r2)), none, none]) (st' := []) qd64_10 rfl ?_
  refine go_s qd64_11 rfl ?_
  refine go_l (L' := [some (.ref (z + 0)), some (.int (Int32.ofInt r2)), some (.int (Int32.ofInt r2)), some (.int (Int32.ofInt 1)), none]) (st' := []) qd64_12 rfl ?_
  obtain ⟨x13, e14, h⟩ := sw_bind h
  refine sq_weak (L := [some (.ref (z + 0)), some (.int (Int32.ofInt r2)), some (.int (Int32.ofInt r2)), some (.int (Int32.ofInt 1)), none]) ⟨rfl, rfl, rfl, rfl, trivial⟩ (B64_13 hn (res := x13) ?_ _ _ _ _ e14)
  refine go_l qd64_66 rfl ?_
  obtain ⟨_u, e15, h⟩ := sw_bind h
  by_cases hb16 : x13.2 = 0
  · replace h := sw_ifY hb16 h
    refine ga_zneY (t := 74) qd64_67 e15 hb16 rfl ?_
    refine go_s qd64_70 rfl ?_
    refine ga_jp (t := 79) qd64_71 rfl ?_
    rw [← sw_sj h] at kk
    exact ga_rf qd64_79 qr64 kk
  · replace h := sw_ifN hb16 h
    refine ga_zneN (t := 74) qd64_67 e15 hb16 rfl ?_
    refine go_l qd64_74 rfl ?_
    refine go_s qd64_75 rfl ?_
    refine go_l qd64_76 rfl ?_
    refine go_s qd64_77 rfl ?_
    obtain ⟨_u, e17, h⟩ := sw_bind h
    refine ga_fdiv qd64_78 e17 ?_
    rw [← sw_sj h] at kk
    exact ga_rf qd64_79 qr64 kk
