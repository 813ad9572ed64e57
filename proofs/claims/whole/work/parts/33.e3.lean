/-! ===== the methods as functions over tables ===== -/
theorem qt75_10 : sw_tq 75 10 0 = true := by decide +kernel
theorem qc75 : sq_c 75 = 5 := by decide +kernel
theorem qr75 : sq_ret 75 = some .int := by decide +kernel
theorem qk75_192 : sw_ck 75 192 43 0 1 3 2 = true := by decide +kernel
-- 75: SewingPiles.count(I)I
def w75 (T : sw_T) (p1 : Int) : Option ((Int) ⊕ Nat) :=
  (sw_r1 p1).bind fun _u =>
  if p1 < 0 then
    some (.inr 0)
  else
    (sw_r2 p1 12).bind fun _u =>
    if p1 < 12 then
      (sw_r2 p1 11).bind fun _u =>
      if p1 = 11 then
        some (.inl ((T 73 1)))
      else
        (w43 1 T p1).bind fun r8 =>
        some (.inl (r8))
    else
      some (.inr 0)
theorem A75 {G : sp_G} {z n : Nat} (hn : 228 ≤ n) {T : sw_T} {K : sw_K} {p1 : Int} {res : (Int) ⊕ Nat} {Q : sp_R → sp_M → Prop} (h : w75 T p1 = some res) (kk : ∀ r, res = .inl r → Q (.inl (some (.int (Int32.ofInt r)))) (sw_M z n sw_Ft T K)) (kx : ∀ E, res = .inr E → Q (.inr (sw_en E)) (sw_M z n sw_Ft T (sw_th K))) : sq_go G 75 0 [some (.ref (z + 0)), some (.int (Int32.ofInt p1))] [] (sw_M z n sw_Ft T K) Q := by
  unfold w75 at h
  refine go_l qd75_0 rfl ?_
  obtain ⟨_u, e1, h⟩ := sw_bind h
  by_cases hb2 : p1 < 0
  · replace h := sw_ifY hb2 h
    refine ga_zltY (t := 10) qd75_1 e1 hb2 rfl ?_
    exact ga_th qt75_10 (Nat.le_of_ble_eq_true rfl) (kx _ (sw_sj h).symm)
  · replace h := sw_ifN hb2 h
    refine ga_zltN (t := 10) qd75_1 e1 hb2 rfl ?_
    refine go_l qd75_4 rfl ?_
    refine ga_k8 qd75_5 rfl ?_
    obtain ⟨_u, e3, h⟩ := sw_bind h
    by_cases hb4 : p1 < 12
    · replace h := sw_ifY hb4 h
      refine ga_cltY (t := 20) qd75_7 e3 hb4 rfl ?_
      refine go_l qd75_20 rfl ?_
      refine ga_k8 qd75_21 rfl ?_
      obtain ⟨_u, e5, h⟩ := sw_bind h
      by_cases hb6 : p1 = 11
      · replace h := sw_ifY hb6 h
        refine ga_cneY (t := 36) qd75_23 e5 hb6 rfl ?_
        refine go_l qd75_26 rfl ?_
        refine ga_gf (v := .ref (z + 73)) qd75_27 qc75 qf5_25 (sw_sl hn (by decide)) rfl rfl ?_
        refine ga_gf (v := .int (Int32.ofInt (T 73 1))) qd75_30 qc75 qf5_147 (sw_sl hn (by decide)) rfl rfl ?_
        refine ga_jp (t := 44) qd75_33 rfl ?_
        exact ga_ri qd75_44 qr75 (kk _ (sw_sj h).symm)
      · replace h := sw_ifN hb6 h
        refine ga_cneN (t := 36) qd75_23 e5 hb6 rfl ?_
        refine go_l qd75_36 rfl ?_
        refine ga_gf (v := .ref (z + 1)) qd75_37 qc75 qf5_10 (sw_sl hn (by decide)) rfl rfl ?_
        refine go_l qd75_40 rfl ?_
        obtain ⟨r8, e7, h⟩ := sw_bind h
        refine ga_kv (a := 1) (as := [.int (Int32.ofInt p1)]) (rest := []) qd75_41 qk75_192 (sw_sl hn (by decide)) rfl rfl rfl (Nat.le_of_ble_eq_true rfl) (Nat.le_of_ble_eq_true rfl) rfl (A43 hn (by decide) e7 (sw_bkv ?_))
        exact ga_ri qd75_44 qr75 (kk _ (sw_sj h).symm)
    · replace h := sw_ifN hb4 h
      refine ga_cltN (t := 20) qd75_7 e3 hb4 rfl ?_
      exact ga_th qt75_10 (Nat.le_of_ble_eq_true rfl) (kx _ (sw_sj h).symm)
theorem qk76_92 : sw_ck 76 92 92 1 1 5 1 = true := by decide +kernel
theorem qc76 : sq_c 76 = 5 := by decide +kernel
theorem qr76 : sq_ret 76 = some .int := by decide +kernel
theorem qn76 : sw_nh 76 = true := by decide +kernel
-- 76: SewingPiles.setting(I)I
def w76 (T : sw_T) (p1 : Int) : Option ((Int) ⊕ Nat) :=
  (w92 T p1).bind fun r2 =>
  sw_el r2 (fun r3 =>
    (sw_ld T 2 3 p1).bind fun v8 =>
    some (.inl (v8))
  ) (fun E4 =>
  some (.inr E4))
theorem A76 {G : sp_G} {z n : Nat} (hn : 228 ≤ n) {T : sw_T} {K : sw_K} {p1 : Int} {res : (Int) ⊕ Nat} {Q : sp_R → sp_M → Prop} (h : w76 T p1 = some res) (kk : ∀ r, res = .inl r → Q (.inl (some (.int (Int32.ofInt r)))) (sw_M z n sw_Ft T K)) (kx : ∀ E, res = .inr E → Q (.inr (sw_en E)) (sw_M z n sw_Ft T (sw_th K))) : sq_go G 76 0 [some (.ref (z + 0)), some (.int (Int32.ofInt p1))] [] (sw_M z n sw_Ft T K) Q := by
  unfold w76 at h
  refine go_l qd76_0 rfl ?_
  obtain ⟨r2, e1, h⟩ := sw_bind h
  refine ga_kS (as := [.int (Int32.ofInt p1)]) (rest := []) qd76_1 qk76_92 rfl rfl (Nat.le_of_ble_eq_true rfl) (Nat.le_of_ble_eq_true rfl) rfl (A92 hn e1 (fun r3 g5 => ?_) (fun E4 g6 => ?_))
  · refine sw_bk0 ?_
    replace h := sw_elL g5 h
    refine go_l qd76_4 rfl ?_
    refine ga_gf (v := .ref (z + 1)) qd76_5 qc76 qf5_10 (sw_sl hn (by decide)) rfl rfl ?_
    refine ga_gf (v := .ref (z + 2)) qd76_8 qc76 qf5_104 (sw_sl hn (by decide)) rfl rfl ?_
    refine go_l qd76_11 rfl ?_
    obtain ⟨v8, e7, h⟩ := sw_bind h
    refine ga_iald qd76_12 (sw_sl hn (by decide)) e7 ?_
    exact ga_ri qd76_13 qr76 (kk _ (sw_sj h).symm)
  · replace h := sw_elR g6 h
    exact sw_thn qn76 (kx _ (sw_sj h).symm)
theorem qk77_59 : sw_ck 77 59 90 0 1 5 2 = true := by decide +kernel
theorem qc77 : sq_c 77 = 5 := by decide +kernel
theorem qk77_195 : sw_ck 77 195 38 0 1 3 6 = true := by decide +kernel
theorem qr77 : sq_ret 77 = some .int := by decide +kernel
theorem qn77 : sw_nh 77 = true := by decide +kernel
-- 77: SewingPiles.choice(I)I
def w77 (T : sw_T) (p1 : Int) : Option ((Int) ⊕ Nat) :=
  (w90 T p1).bind fun r2 =>
  sw_el r2 (fun r3 =>
    (w38 1 T p1).bind fun r8 =>
    some (.inl (r8))
  ) (fun E4 =>
  some (.inr E4))
theorem A77 {G : sp_G} {z n : Nat} (hn : 228 ≤ n) {T : sw_T} {K : sw_K} {p1 : Int} {res : (Int) ⊕ Nat} {Q : sp_R → sp_M → Prop} (h : w77 T p1 = some res) (kk : ∀ r, res = .inl r → Q (.inl (some (.int (Int32.ofInt r)))) (sw_M z n sw_Ft T K)) (kx : ∀ E, res = .inr E → Q (.inr (sw_en E)) (sw_M z n sw_Ft T (sw_th K))) : sq_go G 77 0 [some (.ref (z + 0)), some (.int (Int32.ofInt p1))] [] (sw_M z n sw_Ft T K) Q := by
  unfold w77 at h
  refine go_l qd77_0 rfl ?_
  refine go_l qd77_1 rfl ?_
  obtain ⟨r2, e1, h⟩ := sw_bind h
  refine ga_kv (a := 0) (as := [.int (Int32.ofInt p1)]) (rest := []) qd77_2 qk77_59 (sw_sl hn (by decide)) rfl rfl rfl (Nat.le_of_ble_eq_true rfl) (Nat.le_of_ble_eq_true rfl) rfl (A90 hn e1 (fun r3 g5 => ?_) (fun E4 g6 => ?_))
  · refine sw_bk0 ?_
    replace h := sw_elL g5 h
    refine go_l qd77_5 rfl ?_
    refine ga_gf (v := .ref (z + 1)) qd77_6 qc77 qf5_10 (sw_sl hn (by decide)) rfl rfl ?_
    refine go_l qd77_9 rfl ?_
    obtain ⟨r8, e7, h⟩ := sw_bind h
    refine ga_kv (a := 1) (as := [.int (Int32.ofInt p1)]) (rest := []) qd77_10 qk77_195 (sw_sl hn (by decide)) rfl rfl rfl (Nat.le_of_ble_eq_true rfl) (Nat.le_of_ble_eq_true rfl) rfl (A38 hn (by decide) e7 (sw_bkv ?_))
    exact ga_ri qd77_13 qr77 (kk _ (sw_sj h).symm)
  · replace h := sw_elR g6 h
    exact sw_thn qn77 (kx _ (sw_sj h).symm)
theorem qf5_19 : (sp_fd sp_flT 5 19).or (sp_fd sp_fnT 5 19) = some (5, 2) := by decide +kernel
theorem qc78 : sq_c 78 = 5 := by decide +kernel
theorem qk78_135 : sw_ck 78 135 24 0 1 3 3 = true := by decide +kernel
theorem qk78_198 : sw_ck 78 198 41 0 1 3 3 = true := by decide +kernel
theorem qr78 : sq_ret 78 = some .int := by decide +kernel
-- 78: SewingPiles.doneIn()I
def w78 (T : sw_T) : Option (Int × sw_T) :=
  (w24 49 1 T).bind fun r2 =>
  (w41 49 r2 1).bind fun r4 =>
  some ((r4.1, r4.2))
theorem A78 {G : sp_G} {z n : Nat} (hn : 228 ≤ n) {T : sw_T} {K : sw_K} {res : Int × sw_T} {Q : sp_R → sp_M → Prop} (h : w78 T = some res) (kk : Q (.inl (some (.int (Int32.ofInt res.1)))) (sw_M z n sw_Ft res.2 K)) : sq_go G 78 0 [some (.ref (z + 0))] [] (sw_M z n sw_Ft T K) Q := by
  unfold w78 at h
  refine go_l qd78_0 rfl ?_
  refine ga_gf (v := .ref (z + 49)) qd78_1 qc78 qf5_19 (sw_sl hn (by decide)) rfl rfl ?_
  refine go_l qd78_4 rfl ?_
  refine ga_gf (v := .ref (z + 1)) qd78_5 qc78 qf5_10 (sw_sl hn (by decide)) rfl rfl ?_
  obtain ⟨r2, e1, h⟩ := sw_bind h
  refine ga_kv (a := 49) (as := [.ref (z + 1)]) (rest := []) qd78_8 qk78_135 (sw_sl hn (by decide)) rfl rfl rfl (Nat.le_of_ble_eq_true rfl) (Nat.le_of_ble_eq_true rfl) rfl (A24 hn (by decide) (by decide) e1 (sw_bk0 ?_))
  refine go_l qd78_11 rfl ?_
  refine ga_gf (v := .ref (z + 49)) qd78_12 qc78 qf5_19 (sw_sl hn (by decide)) rfl rfl ?_
  refine go_s qd78_15 rfl ?_
  obtain ⟨r4, e3, h⟩ := sw_bind h
  refine ga_kv (a := 49) (as := [.int (Int32.ofInt 1)]) (rest := []) qd78_16 qk78_198 (sw_sl hn (by decide)) rfl rfl rfl (Nat.le_of_ble_eq_true rfl) (Nat.le_of_ble_eq_true rfl) rfl (A41 hn (by decide) e3 (sw_bkv ?_))
  rw [← sw_sj h] at kk
  exact ga_ri qd78_19 qr78 kk
theorem qc79 : sq_c 79 = 5 := by decide +kernel
theorem qk79_135 : sw_ck 79 135 24 0 1 3 3 = true := by decide +kernel
theorem qk79_198 : sw_ck 79 198 41 0 1 3 3 = true := by decide +kernel
theorem qr79 : sq_ret 79 = some .int := by decide +kernel
-- 79: SewingPiles.doneAlone()I
def w79 (T : sw_T) : Option (Int × sw_T) :=
  (w24 49 1 T).bind fun r2 =>
  (w41 49 r2 0).bind fun r4 =>
  some ((r4.1, r4.2))
theorem A79 {G : sp_G} {z n : Nat} (hn : 228 ≤ n) {T : sw_T} {K : sw_K} {res : Int × sw_T} {Q : sp_R → sp_M → Prop} (h : w79 T = some res) (kk : Q (.inl (some (.int (Int32.ofInt res.1)))) (sw_M z n sw_Ft res.2 K)) : sq_go G 79 0 [some (.ref (z + 0))] [] (sw_M z n sw_Ft T K) Q := by
  unfold w79 at h
  refine go_l qd79_0 rfl ?_
  refine ga_gf (v := .ref (z + 49)) qd79_1 qc79 qf5_19 (sw_sl hn (by decide)) rfl rfl ?_
  refine go_l qd79_4 rfl ?_
  refine ga_gf (v := .ref (z + 1)) qd79_5 qc79 qf5_10 (sw_sl hn (by decide)) rfl rfl ?_
  obtain ⟨r2, e1, h⟩ := sw_bind h
  refine ga_kv (a := 49) (as := [.ref (z + 1)]) (rest := []) qd79_8 qk79_135 (sw_sl hn (by decide)) rfl rfl rfl (Nat.le_of_ble_eq_true rfl) (Nat.le_of_ble_eq_true rfl) rfl (A24 hn (by decide) (by decide) e1 (sw_bk0 ?_))
  refine go_l qd79_11 rfl ?_
  refine ga_gf (v := .ref (z + 49)) qd79_12 qc79 qf5_19 (sw_sl hn (by decide)) rfl rfl ?_
  refine go_s qd79_15 rfl ?_
  obtain ⟨r4, e3, h⟩ := sw_bind h
  refine ga_kv (a := 49) (as := [.int (Int32.ofInt 0)]) (rest := []) qd79_16 qk79_198 (sw_sl hn (by decide)) rfl rfl rfl (Nat.le_of_ble_eq_true rfl) (Nat.le_of_ble_eq_true rfl) rfl (A41 hn (by decide) e3 (sw_bkv ?_))
  rw [← sw_sj h] at kk
  exact ga_ri qd79_19 qr79 kk
theorem qk80_36 : sw_ck 80 36 91 1 1 5 1 = true := by decide +kernel
theorem qc80 : sq_c 80 = 5 := by decide +kernel
theorem qk80_135 : sw_ck 80 135 24 0 1 3 3 = true := by decide +kernel
theorem qk80_55 : sw_ck 80 55 26 0 1 3 2 = true := by decide +kernel
theorem qk80_198 : sw_ck 80 198 41 0 1 3 3 = true := by decide +kernel
theorem qr80 : sq_ret 80 = some .int := by decide +kernel
theorem qn80 : sw_nh 80 = true := by decide +kernel
-- 80: SewingPiles.doneWith(I)I
def w80 (T : sw_T) (p1 : Int) : Option ((Int × sw_T) ⊕ Nat) :=
  (w91 T p1).bind fun r2 =>
  sw_el r2 (fun r3 =>
    (w24 49 1 T).bind fun r8 =>
    (w26 49 r8 p1).bind fun r10 =>
    (w41 49 r10.2 1).bind fun r12 =>
    some (.inl ((r12.1, r12.2)))
  ) (fun E4 =>
  some (.inr E4))
theorem A80 {G : sp_G} {z n : Nat} (hn : 228 ≤ n) {T : sw_T} {K : sw_K} {p1 : Int} {res : (Int × sw_T) ⊕ Nat} {Q : sp_R → sp_M → Prop} (h : w80 T p1 = some res) (kk : ∀ r, res = .inl r → Q (.inl (some (.int (Int32.ofInt r.1)))) (sw_M z n sw_Ft r.2 K)) (kx : ∀ E, res = .inr E → Q (.inr (sw_en E)) (sw_M z n sw_Ft T (sw_th K))) : sq_go G 80 0 [some (.ref (z + 0)), some (.int (Int32.ofInt p1))] [] (sw_M z n sw_Ft T K) Q := by
  unfold w80 at h
  refine go_l qd80_0 rfl ?_
  obtain ⟨r2, e1, h⟩ := sw_bind h
  refine ga_kS (as := [.int (Int32.ofInt p1)]) (rest := []) qd80_1 qk80_36 rfl rfl (Nat.le_of_ble_eq_true rfl) (Nat.le_of_ble_eq_true rfl) rfl (A91 hn e1 (fun r3 g5 => ?_) (fun E4 g6 => ?_))
  · refine sw_bk0 ?_
    replace h := sw_elL g5 h
    refine go_l qd80_4 rfl ?_
    refine ga_gf (v := .ref (z + 49)) qd80_5 qc80 qf5_19 (sw_sl hn (by decide)) rfl rfl ?_
    refine go_l qd80_8 rfl ?_
    refine ga_gf (v := .ref (z + 1)) qd80_9 qc80 qf5_10 (sw_sl hn (by decide)) rfl rfl ?_
    obtain ⟨r8, e7, h⟩ := sw_bind h
    refine ga_kv (a := 49) (as := [.ref (z + 1)]) (rest := []) qd80_12 qk80_135 (sw_sl hn (by decide)) rfl rfl rfl (Nat.le_of_ble_eq_true rfl) (Nat.le_of_ble_eq_true rfl) rfl (A24 hn (by decide) (by decide) e7 (sw_bk0 ?_))
    refine go_l qd80_15 rfl ?_
    refine ga_gf (v := .ref (z + 49)) qd80_16 qc80 qf5_19 (sw_sl hn (by decide)) rfl rfl ?_
    refine go_l qd80_19 rfl ?_
    obtain ⟨r10, e9, h⟩ := sw_bind h
    refine ga_kv (a := 49) (as := [.int (Int32.ofInt p1)]) (rest := []) qd80_20 qk80_55 (sw_sl hn (by decide)) rfl rfl rfl (Nat.le_of_ble_eq_true rfl) (Nat.le_of_ble_eq_true rfl) rfl (A26 hn (by decide) e9 (sw_bkv ?_))
    refine go_s qd80_23 rfl ?_
    refine go_l qd80_24 rfl ?_
    refine ga_gf (v := .ref (z + 49)) qd80_25 qc80 qf5_19 (sw_sl hn (by decide)) rfl rfl ?_
    refine go_s qd80_28 rfl ?_
    obtain ⟨r12, e11, h⟩ := sw_bind h
    refine ga_kv (a := 49) (as := [.int (Int32.ofInt 1)]) (rest := []) qd80_29 qk80_198 (sw_sl hn (by decide)) rfl rfl rfl (Nat.le_of_ble_eq_true rfl) (Nat.le_of_ble_eq_true rfl) rfl (A41 hn (by decide) e11 (sw_bkv ?_))
    exact ga_ri qd80_32 qr80 (kk _ (sw_sj h).symm)
  · replace h := sw_elR g6 h
    exact sw_thn qn80 (kx _ (sw_sj h).symm)
theorem qt81_21 : sw_tq 81 21 0 = true := by decide +kernel
theorem qc81 : sq_c 81 = 5 := by decide +kernel
theorem qk81_135 : sw_ck 81 135 24 0 1 3 3 = true := by decide +kernel
theorem qk81_89 : sw_ck 81 89 32 0 1 3 3 = true := by decide +kernel
theorem qk81_85 : sw_ck 81 85 45 0 0 3 1 = true := by decide +kernel
theorem qr81 : sq_ret 81 = some .int := by decide +kernel
theorem qf5_204 : (sp_fd sp_flT 5 204).or (sp_fd sp_fnT 5 204) = some (3, 10) := by decide +kernel
theorem qk81_207 : sw_ck 81 207 48 0 1 3 4 = true := by decide +kernel
theorem qf5_211 : (sp_fd sp_flT 5 211).or (sp_fd sp_fnT 5 211) = some (3, 12) := by decide +kernel
theorem qk81_214 : sw_ck 81 214 57 0 0 4 3 = true := by decide +kernel
-- 81: SewingPiles.ifPassed(II)I
def w81 (T : sw_T) (p1 : Int) (p2 : Int) : Option ((Int × sw_T) ⊕ Nat) :=
  (sw_r2 p1 1).bind fun _u =>
  if p1 < 1 then
    some (.inr 0)
  else
    (sw_r2 p1 200).bind fun _u =>
    if 200 < p1 then
      some (.inr 0)
    else
      (sw_r1 p2).bind fun _u =>
      if p2 < 0 then
        some (.inr 0)
      else
        (sw_r2 p2 4).bind fun _u =>
        if p2 < 4 then
          (w24 49 1 T).bind fun r10 =>
          (w32 49 r10 p1).bind fun r12 =>
          (sw_r1 p2).bind fun _u =>
          if p2 = 0 then
            (w45 49 r12).bind fun r16 =>
            (w45 1 r12).bind fun r18 =>
            some (.inl (((r16 - r18), r12)))
          else
          if p2 = 1 then
            (w48 49 56 r12).bind fun r21 =>
            (w48 1 8 r12).bind fun r23 =>
            some (.inl (((r21 - r23), r12)))
          else
          if p2 = 2 then
            (w48 49 58 r12).bind fun r26 =>
            (w48 1 10 r12).bind fun r28 =>
            some (.inl (((r26 - r28), r12)))
          else
            (w57 49 r12).bind fun r30 =>
            some (.inl ((r30, r12)))
        else
          some (.inr 0)
theorem A81 {G : sp_G} {z n : Nat} (hn : 228 ≤ n) {T : sw_T} {K : sw_K} {p1 : Int} {p2 : Int} {res : (Int × sw_T) ⊕ Nat} {Q : sp_R → sp_M → Prop} (h : w81 T p1 p2 = some res) (kk : ∀ r, res = .inl r → Q (.inl (some (.int (Int32.ofInt r.1)))) (sw_M z n sw_Ft r.2 K)) (kx : ∀ E, res = .inr E → Q (.inr (sw_en E)) (sw_M z n sw_Ft T (sw_th K))) : sq_go G 81 0 [some (.ref (z + 0)), some (.int (Int32.ofInt p1)), some (.int (Int32.ofInt p2))] [] (sw_M z n sw_Ft T K) Q := by
  unfold w81 at h
  refine go_l qd81_0 rfl ?_
  refine go_s qd81_1 rfl ?_
  obtain ⟨_u, e1, h⟩ := sw_bind h
  by_cases hb2 : p1 < 1
  · replace h := sw_ifY hb2 h
    refine ga_cltY (t := 21) qd81_2 e1 hb2 rfl ?_
    exact ga_th qt81_21 (Nat.le_of_ble_eq_true rfl) (kx _ (sw_sj h).symm)
  · replace h := sw_ifN hb2 h
    refine ga_cltN (t := 21) qd81_2 e1 hb2 rfl ?_
    refine go_l qd81_5 rfl ?_
    refine ga_k16 qd81_6 rfl ?_
    obtain ⟨_u, e3, h⟩ := sw_bind h
    by_cases hb4 : 200 < p1
    · replace h := sw_ifY hb4 h
      refine ga_cgtY (t := 21) qd81_9 e3 hb4 rfl ?_
      exact ga_th qt81_21 (Nat.le_of_ble_eq_true rfl) (kx _ (sw_sj h).symm)
    · replace h := sw_ifN hb4 h
      refine ga_cgtN (t := 21) qd81_9 e3 hb4 rfl ?_
      refine go_l qd81_12 rfl ?_
      obtain ⟨_u, e5, h⟩ := sw_bind h
      by_cases hb6 : p2 < 0
      · replace h := sw_ifY hb6 h
        refine ga_zltY (t := 21) qd81_13 e5 hb6 rfl ?_
        exact ga_th qt81_21 (Nat.le_of_ble_eq_true rfl) (kx _ (sw_sj h).symm)
      · replace h := sw_ifN hb6 h
        refine ga_zltN (t := 21) qd81_13 e5 hb6 rfl ?_
        refine go_l qd81_16 rfl ?_
        refine go_s qd81_17 rfl ?_
        obtain ⟨_u, e7, h⟩ := sw_bind h
        by_cases hb8 : p2 < 4
        · replace h := sw_ifY hb8 h
          refine ga_cltY (t := 31) qd81_18 e7 hb8 rfl ?_
          refine go_l qd81_31 rfl ?_
          refine ga_gf (v := .ref (z + 49)) qd81_32 qc81 qf5_19 (sw_sl hn (by decide)) rfl rfl ?_
          refine go_l qd81_35 rfl ?_
          refine ga_gf (v := .ref (z + 1)) qd81_36 qc81 qf5_10 (sw_sl hn (by decide)) rfl rfl ?_
          obtain ⟨r10, e9, h⟩ := sw_bind h
          refine ga_kv (a := 49) (as := [.ref (z + 1)]) (rest := []) qd81_39 qk81_135 (sw_sl hn (by decide)) rfl rfl rfl (Nat.le_of_ble_eq_true rfl) (Nat.le_of_ble_eq_true rfl) rfl (A24 hn (by decide) (by decide) e9 (sw_bk0 ?_))
          refine go_l qd81_42 rfl ?_
          refine ga_gf (v := .ref (z + 49)) qd81_43 qc81 qf5_19 (sw_sl hn (by decide)) rfl rfl ?_
          refine go_l qd81_46 rfl ?_
          obtain ⟨r12, e11, h⟩ := sw_bind h
          refine ga_kv (a := 49) (as := [.int (Int32.ofInt p1)]) (rest := []) qd81_47 qk81_89 (sw_sl hn (by decide)) rfl rfl rfl (Nat.le_of_ble_eq_true rfl) (Nat.le_of_ble_eq_true rfl) rfl (A32 hn (by decide) e11 (sw_bk0 ?_))
          refine go_l qd81_50 rfl ?_
          obtain ⟨_u, e13, h⟩ := sw_bind h
          by_cases hb14 : p2 = 0
          · replace h := sw_ifY hb14 h
            refine ga_sw (t := 76) qd81_51 rfl hb14 rfl ?_
            refine go_l qd81_76 rfl ?_
            refine ga_gf (v := .ref (z + 49)) qd81_77 qc81 qf5_19 (sw_sl hn (by decide)) rfl rfl ?_
            obtain ⟨r16, e15, h⟩ := sw_bind h
            refine ga_kv (a := 49) (as := []) (rest := []) qd81_80 qk81_85 (sw_sl hn (by decide)) rfl rfl rfl (Nat.le_of_ble_eq_true rfl) (Nat.le_of_ble_eq_true rfl) rfl (A45 hn (by decide) e15 (sw_bkv ?_))
            refine go_l qd81_83 rfl ?_
            refine ga_gf (v := .ref (z + 1)) qd81_84 qc81 qf5_10 (sw_sl hn (by decide)) rfl rfl ?_
            obtain ⟨r18, e17, h⟩ := sw_bind h
            refine ga_kv (a := 1) (as := []) (rest := [.int (Int32.ofInt r16)]) qd81_87 qk81_85 (sw_sl hn (by decide)) rfl rfl rfl (Nat.le_of_ble_eq_true rfl) (Nat.le_of_ble_eq_true rfl) rfl (A45 hn (by decide) e17 (sw_bkv ?_))
            refine ga_isub qd81_90 ?_
            exact ga_ri qd81_91 qr81 (kk _ (sw_sj h).symm)
          · replace h := sw_ifN hb14 h
            by_cases hb19 : p2 = 1
            · replace h := sw_ifY hb19 h
              refine ga_sw (t := 92) qd81_51 rfl hb19 rfl ?_
              refine go_l qd81_92 rfl ?_
              refine ga_gf (v := .ref (z + 49)) qd81_93 qc81 qf5_19 (sw_sl hn (by decide)) rfl rfl ?_
              refine go_l qd81_96 rfl ?_
              refine ga_gf (v := .ref (z + 49)) qd81_97 qc81 qf5_19 (sw_sl hn (by decide)) rfl rfl ?_
              refine ga_gf (v := .ref (z + 56)) qd81_100 qc81 qf5_204 (sw_sl hn (by decide)) rfl rfl ?_
              obtain ⟨r21, e20, h⟩ := sw_bind h
              refine ga_kv (a := 49) (as := [.ref (z + 56)]) (rest := []) qd81_103 qk81_207 (sw_sl hn (by decide)) rfl rfl rfl (Nat.le_of_ble_eq_true rfl) (Nat.le_of_ble_eq_true rfl) rfl (A48 hn (by decide) (sw_sl hn (by decide)) e20 (sw_bkv ?_))
              refine go_l qd81_106 rfl ?_
              refine ga_gf (v := .ref (z + 1)) qd81_107 qc81 qf5_10 (sw_sl hn (by decide)) rfl rfl ?_
              refine go_l qd81_110 rfl ?_
              refine ga_gf (v := .ref (z + 1)) qd81_111 qc81 qf5_10 (sw_sl hn (by decide)) rfl rfl ?_
              refine ga_gf (v := .ref (z + 8)) qd81_114 qc81 qf5_204 (sw_sl hn (by decide)) rfl rfl ?_
              obtain ⟨r23, e22, h⟩ := sw_bind h
              refine ga_kv (a := 1) (as := [.ref (z + 8)]) (rest := [.int (Int32.ofInt r21)]) qd81_117 qk81_207 (sw_sl hn (by decide)) rfl rfl rfl (Nat.le_of_ble_eq_true rfl) (Nat.le_of_ble_eq_true rfl) rfl (A48 hn (by decide) (sw_sl hn (by decide)) e22 (sw_bkv ?_))
              refine ga_isub qd81_120 ?_
              exact ga_ri qd81_121 qr81 (kk _ (sw_sj h).symm)
            · replace h := sw_ifN hb19 h
              by_cases hb24 : p2 = 2
              · replace h := sw_ifY hb24 h
                refine ga_sw (t := 122) qd81_51 rfl hb24 rfl ?_
                refine go_l qd81_122 rfl ?_
                refine ga_gf (v := .ref (z + 49)) qd81_123 qc81 qf5_19 (sw_sl hn (by decide)) rfl rfl ?_
                refine go_l qd81_126 rfl ?_
                refine ga_gf (v := .ref (z + 49)) qd81_127 qc81 qf5_19 (sw_sl hn (by decide)) rfl rfl ?_
                refine ga_gf (v := .ref (z + 58)) qd81_130 qc81 qf5_211 (sw_sl hn (by decide)) rfl rfl ?_
                obtain ⟨r26, e25, h⟩ := sw_bind h
                refine ga_kv (a := 49) (as := [.ref (z + 58)]) (rest := []) qd81_133 qk81_207 (sw_sl hn (by decide)) rfl rfl rfl (Nat.le_of_ble_eq_true rfl) (Nat.le_of_ble_eq_true rfl) rfl (A48 hn (by decide) (sw_sl hn (by decide)) e25 (sw_bkv ?_))
                refine go_l qd81_136 rfl ?_
                refine ga_gf (v := .ref (z + 1)) qd81_137 qc81 qf5_10 (sw_sl hn (by decide)) rfl rfl ?_
                refine go_l qd81_140 rfl ?_
                refine ga_gf (v := .ref (z + 1)) qd81_141 qc81 qf5_10 (sw_sl hn (by decide)) rfl rfl ?_
                refine ga_gf (v := .ref (z + 10)) qd81_144 qc81 qf5_211 (sw_sl hn (by decide)) rfl rfl ?_
                obtain ⟨r28, e27, h⟩ := sw_bind h
                refine ga_kv (a := 1) (as := [.ref (z + 10)]) (rest := [.int (Int32.ofInt r26)]) qd81_147 qk81_207 (sw_sl hn (by decide)) rfl rfl rfl (Nat.le_of_ble_eq_true rfl) (Nat.le_of_ble_eq_true rfl) rfl (A48 hn (by decide) (sw_sl hn (by decide)) e27 (sw_bkv ?_))
                refine ga_isub qd81_150 ?_
                exact ga_ri qd81_151 qr81 (kk _ (sw_sj h).symm)
              · replace h := sw_ifN hb24 h
                refine ga_tsd (t := 152) qd81_51 e13 (by omega) rfl ?_
                refine go_l qd81_152 rfl ?_
                refine ga_gf (v := .ref (z + 49)) qd81_153 qc81 qf5_19 (sw_sl hn (by decide)) rfl rfl ?_
                refine ga_gf (v := .ref (z + 69)) qd81_156 qc81 qf5_171 (sw_sl hn (by decide)) rfl rfl ?_
                obtain ⟨r30, e29, h⟩ := sw_bind h
                refine ga_kv (a := 69) (as := []) (rest := []) qd81_159 qk81_214 (sw_sl hn (by decide)) rfl rfl rfl (Nat.le_of_ble_eq_true rfl) (Nat.le_of_ble_eq_true rfl) rfl (A57 hn (by decide) e29 (sw_bkv ?_))
                exact ga_ri qd81_162 qr81 (kk _ (sw_sj h).symm)
        · replace h := sw_ifN hb8 h
          refine ga_cltN (t := 31) qd81_18 e7 hb8 rfl ?_
          exact ga_th qt81_21 (Nat.le_of_ble_eq_true rfl) (kx _ (sw_sj h).symm)
theorem qc82 : sq_c 82 = 5 := by decide +kernel
theorem qf5_217 : (sp_fd sp_flT 5 217).or (sp_fd sp_fnT 5 217) = some (3, 2) := by decide +kernel
theorem qr82 : sq_ret 82 = some .double := by decide +kernel
theorem qk82_207 : sw_ck 82 207 48 0 1 3 4 = true := by decide +kernel
-- 82: SewingPiles.takenShare()D
def w82 (T : sw_T) : Option (UInt64) :=
  (sw_r1 (T 1 2)).bind fun _u =>
  if (T 1 2) = 0 then
    some ((sp_dc 0))
  else
    (w48 1 8 T).bind fun r4 =>
    (sw_k64 (FP.ddiv (FP.i2d (Int32.ofInt r4)) (FP.i2d (Int32.ofInt (T 1 2))))).bind fun _u =>
    some ((FP.ddiv (FP.i2d (Int32.ofInt r4)) (FP.i2d (Int32.ofInt (T 1 2)))))
theorem A82 {G : sp_G} {z n : Nat} (hn : 228 ≤ n) {T : sw_T} {K : sw_K} {res : UInt64} {Q : sp_R → sp_M → Prop} (h : w82 T = some res) (kk : Q (.inl (some (.double res))) (sw_M z n sw_Ft T K)) : sq_go G 82 0 [some (.ref (z + 0))] [] (sw_M z n sw_Ft T K) Q := by
  unfold w82 at h
  refine go_l qd82_0 rfl ?_
  refine ga_gf (v := .ref (z + 1)) qd82_1 qc82 qf5_10 (sw_sl hn (by decide)) rfl rfl ?_
  refine ga_gf (v := .int (Int32.ofInt (T 1 2))) qd82_4 qc82 qf5_217 (sw_sl hn (by decide)) rfl rfl ?_
  obtain ⟨_u, e1, h⟩ := sw_bind h
  by_cases hb2 : (T 1 2) = 0
  · replace h := sw_ifY hb2 h
    refine ga_zneY (t := 12) qd82_7 e1 hb2 rfl ?_
    refine go_s qd82_10 rfl ?_
    rw [← sw_sj h] at kk
    exact ga_rd qd82_11 qr82 kk
  · replace h := sw_ifN hb2 h
    refine ga_zneN (t := 12) qd82_7 e1 hb2 rfl ?_
    refine go_l qd82_12 rfl ?_
    refine ga_gf (v := .ref (z + 1)) qd82_13 qc82 qf5_10 (sw_sl hn (by decide)) rfl rfl ?_
    refine go_l qd82_16 rfl ?_
    refine ga_gf (v := .ref (z + 1)) qd82_17 qc82 qf5_10 (sw_sl hn (by decide)) rfl rfl ?_
    refine ga_gf (v := .ref (z + 8)) qd82_20 qc82 qf5_204 (sw_sl hn (by decide)) rfl rfl ?_
    obtain ⟨r4, e3, h⟩ := sw_bind h
    refine ga_kv (a := 1) (as := [.ref (z + 8)]) (rest := []) qd82_23 qk82_207 (sw_sl hn (by decide)) rfl rfl rfl (Nat.le_of_ble_eq_true rfl) (Nat.le_of_ble_eq_true rfl) rfl (A48 hn (by decide) (sw_sl hn (by decide)) e3 (sw_bkv ?_))
    refine go_s qd82_26 rfl ?_
    refine go_l qd82_27 rfl ?_
    refine ga_gf (v := .ref (z + 1)) qd82_28 qc82 qf5_10 (sw_sl hn (by decide)) rfl rfl ?_
    refine ga_gf (v := .int (Int32.ofInt (T 1 2))) qd82_31 qc82 qf5_217 (sw_sl hn (by decide)) rfl rfl ?_
    refine go_s qd82_34 rfl ?_
    obtain ⟨_u, e5, h⟩ := sw_bind h
    refine ga_ddiv qd82_35 e5 ?_
    rw [← sw_sj h] at kk
    exact ga_rd qd82_36 qr82 kk
theorem qc83 : sq_c 83 = 5 := by decide +kernel
theorem qk83_220 : sw_ck 83 220 44 0 1 3 4 = true := by decide +kernel
theorem qr83 : sq_ret 83 = some .float := by decide +kernel
-- 83: SewingPiles.evenness()F
def w83_13 (T : sw_T) : Nat → Int → Int → Int → Option (Int × Int)
  | 0, _, _, _ => none
  | m + 1, l1, l2, l3 =>
    (sw_r2 l3 (T 1 1)).bind fun _u =>
    if l3 < (T 1 1) then
      (w44 1 T l3).bind fun r6 =>
      (sw_r2 r6 l1).bind fun _u =>
      if r6 < l1 then
        (sw_r2 r6 l2).bind fun _u =>
        if l2 < r6 then
          w83_13 T m r6 r6 (l3 + 1)
        else
          w83_13 T m r6 l2 (l3 + 1)
      else
        (sw_r2 r6 l2).bind fun _u =>
        if l2 < r6 then
          w83_13 T m l1 r6 (l3 + 1)
        else
          w83_13 T m l1 l2 (l3 + 1)
    else
      some ((l1, l2))
theorem B83_13 {G : sp_G} {z n : Nat} (hn : 228 ≤ n) {T : sw_T} {K : sw_K} {res : Int × Int} {Q : sp_R → sp_M → Prop} (kk : sq_go G 83 66 [none, some (.int (Int32.ofInt res.1)), some (.int (Int32.ofInt res.2)), none, none] [] (sw_M z n sw_Ft T K) Q) : ∀ (m : Nat) (l1 : Int) (l2 : Int) (l3 : Int), w83_13 T m l1 l2 l3 = some res → sq_go G 83 13 [some (.ref (z + 0)), some (.int (Int32.ofInt l1)), some (.int (Int32.ofInt l2)), some (.int (Int32.ofInt l3)), none] [] (sw_M z n sw_Ft T K) Q := by
  intro m
  induction m with
  | zero => intro l1 l2 l3 h; cases h
  | succ m ih =>
    intro l1 l2 l3 h
    rw [w83_13] at h
    refine go_l qd83_13 rfl ?_
    refine go_l qd83_14 rfl ?_
    refine ga_gf (v := .ref (z + 1)) qd83_15 qc83 qf5_10 (sw_sl hn (by decide)) rfl rfl ?_
    refine ga_gf (v := .int (Int32.ofInt (T 1 1))) qd83_18 qc83 qf5_40 (sw_sl hn (by decide)) rfl rfl ?_
    obtain ⟨_u, e3, h⟩ := sw_bind h
    by_cases hb4 : l3 < (T 1 1)
    · replace h := sw_ifY hb4 h
      refine ga_cgeY (t := 66) qd83_21 e3 hb4 rfl ?_
      refine go_l qd83_24 rfl ?_
      refine ga_gf (v := .ref (z + 1)) qd83_25 qc83 qf5_10 (sw_sl hn (by decide)) rfl rfl ?_
      refine go_l qd83_28 rfl ?_
      obtain ⟨r6, e5, h⟩ := sw_bind h
      refine ga_kv (a := 1) (as := [.int (Int32.ofInt l3)]) (rest := []) qd83_29 qk83_220 (sw_sl hn (by decide)) rfl rfl rfl (Nat.le_of_ble_eq_true rfl) (Nat.le_of_ble_eq_true rfl) rfl (A44 hn (by decide) e5 (sw_bkv ?_))
      refine go_l (L' := [some (.ref (z + 0)), some (.int (Int32.ofInt l1)), some (.int (Int32.ofInt l2)), some (.int (Int32.ofInt l3)), some (.int (Int32.ofInt r6))]) (st' := []) qd83_32 rfl ?_
      refine go_l qd83_34 rfl ?_
      refine go_l qd83_36 rfl ?_
      obtain ⟨_u, e7, h⟩ := sw_bind h
      by_cases hb8 : r6 < l1
      · replace h := sw_ifY hb8 h
        refine ga_cgeY (t := 45) qd83_37 e7 hb8 rfl ?_
        refine go_l qd83_40 rfl ?_
        refine ga_jp (t := 46) qd83_42 rfl ?_
        refine go_l (L' := [some (.ref (z + 0)), some (.int (Int32.ofInt r6)), some (.int (Int32.ofInt l2)), some (.int (Int32.ofInt l3)), some (.int (Int32.ofInt r6))]) (st' := []) qd83_46 rfl ?_
        refine go_l qd83_47 rfl ?_
        refine go_l qd83_49 rfl ?_
        obtain ⟨_u, e9, h⟩ := sw_bind h
        by_cases hb10 : l2 < r6
        · replace h := sw_ifY hb10 h
          refine ga_cleY (t := 58) qd83_50 e9 hb10 rfl ?_
          refine go_l qd83_53 rfl ?_
          refine ga_jp (t := 59) qd83_55 rfl ?_
          refine go_l (L' := [some (.ref (z + 0)), some (.int (Int32.ofInt r6)), some (.int (Int32.ofInt r6)), some (.int (Int32.ofInt l3)), some (.int (Int32.ofInt r6))]) (st' := []) qd83_59 rfl ?_
          refine ga_ii (L' := [some (.ref (z + 0)), some (.int (Int32.ofInt r6)), some (.int (Int32.ofInt r6)), some (.int (Int32.ofInt (l3 + 1))), some (.int (Int32.ofInt r6))]) qd83_60 rfl rfl ?_
          refine ga_jp (t := 13) qd83_63 rfl ?_
          exact sq_weak (L := [some (.ref (z + 0)), some (.int (Int32.ofInt r6)), some (.int (Int32.ofInt r6)), some (.int (Int32.ofInt (l3 + 1))), none]) ⟨rfl, rfl, rfl, rfl, trivial⟩ (ih _ _ _ h)
        · replace h := sw_ifN hb10 h
          refine ga_cleN (t := 58) qd83_50 e9 hb10 rfl ?_
          refine go_l qd83_58 rfl ?_
          refine go_l (L' := [some (.ref (z + 0)), some (.int (Int32.ofInt r6)), some (.int (Int32.ofInt l2)), some (.int (Int32.ofInt l3)), some (.int (Int32.ofInt r6))]) (st' := []) qd83_59 rfl ?_
          refine ga_ii (L' := [some (.ref (z + 0)), some (.int (Int32.ofInt r6)), some (.int (Int32.ofInt l2)), some (.int (Int32.ofInt (l3 + 1))), some (.int (Int32.ofInt r6))]) qd83_60 rfl rfl ?_
          refine ga_jp (t := 13) qd83_63 rfl ?_
          exact sq_weak (L := [some (.ref (z + 0)), some (.int (Int32.ofInt r6)), some (.int (Int32.ofInt l2)), some (.int (Int32.ofInt (l3 + 1))), none]) ⟨rfl, rfl, rfl, rfl, trivial⟩ (ih _ _ _ h)
      · replace h := sw_ifN hb8 h
        refine ga_cgeN (t := 45) qd83_37 e7 hb8 rfl ?_
        refine go_l qd83_45 rfl ?_
        refine go_l (L' := [some (.ref (z + 0)), some (.int (Int32.ofInt l1)), some (.int (Int32.ofInt l2)), some (.int (Int32.ofInt l3)), some (.int (Int32.ofInt r6))]) (st' := []) qd83_46 rfl ?_
        refine go_l qd83_47 rfl ?_
        refine go_l qd83_49 rfl ?_
        obtain ⟨_u, e11, h⟩ := sw_bind h
        by_cases hb12 : l2 < r6
        · replace h := sw_ifY hb12 h
          refine ga_cleY (t := 58) qd83_50 e11 hb12 rfl ?_
          refine go_l qd83_53 rfl ?_
          refine ga_jp (t := 59) qd83_55 rfl ?_
          refine go_l (L' := [some (.ref (z + 0)), some (.int (Int32.ofInt l1)), some (.int (Int32.ofInt r6)), some (.int (Int32.ofInt l3)), some (.int (Int32.ofInt r6))]) (st' := []) qd83_59 rfl ?_
          refine ga_ii (L' := [some (.ref (z + 0)), some (.int (Int32.ofInt l1)), some (.int (Int32.ofInt r6)), some (.int (Int32.ofInt (l3 + 1))), some (.int (Int32.ofInt r6))]) qd83_60 rfl rfl ?_
          refine ga_jp (t := 13) qd83_63 rfl ?_
          exact sq_weak (L := [some (.ref (z + 0)), some (.int (Int32.ofInt l1)), some (.int (Int32.ofInt r6)), some (.int (Int32.ofInt (l3 + 1))), none]) ⟨rfl, rfl, rfl, rfl, trivial⟩ (ih _ _ _ h)
        · replace h := sw_ifN hb12 h
          refine ga_cleN (t := 58) qd83_50 e11 hb12 rfl ?_
          refine go_l qd83_58 rfl ?_
          refine go_l (L' := [some (.ref (z + 0)), some (.int (Int32.ofInt l1)), some (.int (Int32.ofInt l2)), some (.int (Int32.ofInt l3)), some (.int (Int32.ofInt r6))]) (st' := []) qd83_59 rfl ?_
          refine ga_ii (L' := [some (.ref (z + 0)), some (.int (Int32.ofInt l1)), some (.int (Int32.ofInt l2)), some (.int (Int32.ofInt (l3 + 1))), some (.int (Int32.ofInt r6))]) qd83_60 rfl rfl ?_
          refine ga_jp (t := 13) qd83_63 rfl ?_
          exact sq_weak (L := [some (.ref (z + 0)), some (.int (Int32.ofInt l1)), some (.int (Int32.ofInt l2)), some (.int (Int32.ofInt (l3 + 1))), none]) ⟨rfl, rfl, rfl, rfl, trivial⟩ (ih _ _ _ h)
    · replace h := sw_ifN hb4 h
      refine ga_cgeN (t := 66) qd83_21 e3 hb4 rfl ?_
      rw [← sw_sj h] at kk
      exact sq_weak (L := [none, some (.int (Int32.ofInt l1)), some (.int (Int32.ofInt l2)), none, none]) ⟨rfl, rfl, trivial⟩ kk
def w83 (T : sw_T) : Option (UInt32) :=
  (w44 1 T 0).bind fun r2 =>
  (w83_13 T sw_N r2 r2 1).bind fun x13 =>
  (sw_r1 x13.2).bind fun _u =>
  if x13.2 = 0 then
    some ((sp_fc 1))
  else
    (sw_k32 (FP.fdiv (FP.i2f (Int32.ofInt x13.1)) (FP.i2f (Int32.ofInt x13.2)))).bind fun _u =>
    some ((FP.fdiv (FP.i2f (Int32.ofInt x13.1)) (FP.i2f (Int32.ofInt x13.2))))
theorem A83 {G : sp_G} {z n : Nat} (hn : 228 ≤ n) {T : sw_T} {K : sw_K} {res : UInt32} {Q : sp_R → sp_M → Prop} (h : w83 T = some res) (kk : Q (.inl (some (.float res))) (sw_M z n sw_Ft T K)) : sq_go G 83 0 [some (.ref (z + 0)), none, none, none, none] [] (sw_M z n sw_Ft T K) Q := by
  unfold w83 at h
  refine go_l qd83_0 rfl ?_
  refine ga_gf (v := .ref (z + 1)) qd83_1 qc83 qf5_10 (sw_sl hn (by decide)) rfl rfl ?_
  refine go_s qd83_4 rfl ?_
  obtain ⟨r2, e1, h⟩ := sw_bind h
  refine ga_kv (a := 1) (as := [.int (Int32.ofInt 0)]) (rest := []) qd83_5 qk83_220 (sw_sl hn (by decide)) rfl rfl rfl (Nat.le_of_ble_eq_true rfl) (Nat.le_of_ble_eq_true rfl) rfl (A44 hn (by decide) e1 (sw_bkv ?_))
  refine go_l (L' := [some (.ref (z + 0)), some (.int (Int32.ofInt r2)), none, none, none]) (st' := []) qd83_8 rfl ?_
  refine go_l qd83_9 rfl ?_
  refine go_l (L' := [some (.ref (z + 0)), some (.int (Int32.ofInt r2)), some (.int (Int32.ofInt r2)), none, none]) (st' := []) qd83_10 rfl ?_
  refine go_s qd83_11 rfl ?_
  refine go_l (L' := [some (.ref (z + 0)), some (.int (Int32.ofInt r2)), some (.int (Int32.ofInt r2)), some (.int (Int32.ofInt 1)), none]) (st' := []) qd83_12 rfl ?_
  obtain ⟨x13, e14, h⟩ := sw_bind h
  refine sq_weak (L := [some (.ref (z + 0)), some (.int (Int32.ofInt r2)), some (.int (Int32.ofInt r2)), some (.int (Int32.ofInt 1)), none]) ⟨rfl, rfl, rfl, rfl, trivial⟩ (B83_13 hn (res := x13) ?_ _ _ _ _ e14)
  refine go_l qd83_66 rfl ?_
  obtain ⟨_u, e15, h⟩ := sw_bind h
  by_cases hb16 : x13.2 = 0
  · replace h := sw_ifY hb16 h
    refine ga_zneY (t := 74) qd83_67 e15 hb16 rfl ?_
    refine go_s qd83_70 rfl ?_
    refine ga_jp (t := 79) qd83_71 rfl ?_
    rw [← sw_sj h] at kk
    exact ga_rf qd83_79 qr83 kk
  · replace h := sw_ifN hb16 h
    refine ga_zneN (t := 74) qd83_67 e15 hb16 rfl ?_
    refine go_l qd83_74 rfl ?_
    refine go_s qd83_75 rfl ?_
    refine go_l qd83_76 rfl ?_
    refine go_s qd83_77 rfl ?_
    obtain ⟨_u, e17, h⟩ := sw_bind h
    refine ga_fdiv qd83_78 e17 ?_
    rw [← sw_sj h] at kk
    exact ga_rf qd83_79 qr83 kk
theorem qc85 : sq_c 85 = 5 := by decide +kernel
theorem ql5_225 : sp_fd sp_clT 5 225 = some 31 := by decide +kernel
theorem qk85_270 : sw_ck 85 270 72 0 2 5 3 = true := by decide +kernel
theorem qk85_273 : sw_ck 85 273 18 0 1 2 2 = true := by decide +kernel
theorem qk85_276 : sw_ck 85 276 73 0 2 5 3 = true := by decide +kernel
theorem qk85_279 : sw_ck 85 279 77 0 1 5 2 = true := by decide +kernel
theorem qr85 : sq_ret 85 = some .long := by decide +kernel
-- 85: SewingPiles.addSeamstresses(J)J
def w85_20 (T : sw_T) (l5 : Int) : Nat → Int → Int → Option (Int)
  | 0, _, _ => none
  | m + 1, l3, l6 =>
    (sw_r2 l6 10).bind fun _u =>
    if l6 < 10 then
      (w72 T l5 l6).bind fun r6 =>
      sw_el r6 (fun r7 =>
        (sw_r1 r7).bind fun _u =>
        w85_20 T l5 m ((31 * l3) + r7) (l6 + 1)
      ) (fun E8 =>
      none)
    else
      some (l3)
theorem B85_20 {G : sp_G} {z n : Nat} (hn : 228 ≤ n) {T : sw_T} {l5 : Int} {K : sw_K} {res : Int} {Q : sp_R → sp_M → Prop} (kk : sq_go G 85 49 [some (.ref (z + 0)), none, none, some (.long (Int64.ofInt res)), none, some (.int (Int32.ofInt l5)), none, none] [] (sw_M z n sw_Ft T K) Q) : ∀ (m : Nat) (l3 : Int) (l6 : Int), w85_20 T l5 m l3 l6 = some res → sq_go G 85 20 [some (.ref (z + 0)), none, none, some (.long (Int64.ofInt l3)), none, some (.int (Int32.ofInt l5)), some (.int (Int32.ofInt l6)), none] [] (sw_M z n sw_Ft T K) Q := by
  intro m
  induction m with
  | zero => intro l3 l6 h; cases h
  | succ m ih =>
    intro l3 l6 h
    rw [w85_20] at h
    refine go_l qd85_20 rfl ?_
    refine ga_k8 qd85_22 rfl ?_
    obtain ⟨_u, e3, h⟩ := sw_bind h
    by_cases hb4 : l6 < 10
    · replace h := sw_ifY hb4 h
      refine ga_cgeY (t := 49) qd85_24 e3 hb4 rfl ?_
      refine ga_k64 (u := 31) qd85_27 qc85 ql5_225 rfl ?_
      refine go_l qd85_30 rfl ?_
      refine ga_lmul qd85_31 ?_
      refine go_l qd85_32 rfl ?_
      refine go_l qd85_33 rfl ?_
      refine go_l qd85_35 rfl ?_
      obtain ⟨r6, e5, h⟩ := sw_bind h
      refine ga_kv (a := 0) (as := [.int (Int32.ofInt l5), .int (Int32.ofInt l6)]) (rest := [.long (Int64.ofInt (31 * l3))]) qd85_37 qk85_270 (sw_sl hn (by decide)) rfl rfl rfl (Nat.le_of_ble_eq_true rfl) (Nat.le_of_ble_eq_true rfl) rfl (A72 hn e5 (fun r7 g9 => ?_) (fun E8 g10 => ?_))
      · refine sw_bkv ?_
        replace h := sw_elL g9 h
        obtain ⟨_u, e11, h⟩ := sw_bind h
        refine ga_i2l qd85_40 e11 ?_
        refine ga_ladd qd85_41 ?_
        refine go_l (L' := [some (.ref (z + 0)), none, none, some (.long (Int64.ofInt ((31 * l3) + r7))), none, some (.int (Int32.ofInt l5)), some (.int (Int32.ofInt l6)), none]) (st' := []) qd85_42 rfl ?_
        refine ga_ii (L' := [some (.ref (z + 0)), none, none, some (.long (Int64.ofInt ((31 * l3) + r7))), none, some (.int (Int32.ofInt l5)), some (.int (Int32.ofInt (l6 + 1))), none]) qd85_43 rfl rfl ?_
        refine ga_jp (t := 20) qd85_46 rfl ?_
        exact sq_weak (L := [some (.ref (z + 0)), none, none, some (.long (Int64.ofInt ((31 * l3) + r7))), none, some (.int (Int32.ofInt l5)), some (.int (Int32.ofInt (l6 + 1))), none]) ⟨rfl, rfl, rfl, rfl, trivial⟩ (ih _ _ h)
      · replace h := sw_elR g10 h
        cases h
    · replace h := sw_ifN hb4 h
      refine ga_cgeN (t := 49) qd85_24 e3 hb4 rfl ?_
      rw [← sw_sj h] at kk
      exact sq_weak (L := [some (.ref (z + 0)), none, none, some (.long (Int64.ofInt l3)), none, some (.int (Int32.ofInt l5)), none, none]) ⟨rfl, rfl, rfl, trivial⟩ kk
def w85_66 (T : sw_T) (l5 : Int) (l6 : Int) : Nat → Int → Int → Option (Int)
  | 0, _, _ => none
  | m + 1, l3, l7 =>
    (sw_r2 l7 l6).bind fun _u =>
    if l7 < l6 then
      (w73 T l5 l7).bind fun r19 =>
      sw_el r19 (fun r20 =>
        (sw_r1 r20).bind fun _u =>
        w85_66 T l5 l6 m ((31 * l3) + r20) (l7 + 1)
      ) (fun E21 =>
      none)
    else
      some (l3)
theorem B85_66 {G : sp_G} {z n : Nat} (hn : 228 ≤ n) {T : sw_T} {l5 : Int} {l6 : Int} {K : sw_K} {res : Int} {Q : sp_R → sp_M → Prop} (kk : sq_go G 85 95 [some (.ref (z + 0)), none, none, some (.long (Int64.ofInt res)), none, some (.int (Int32.ofInt l5)), none, none] [] (sw_M z n sw_Ft T K) Q) : ∀ (m : Nat) (l3 : Int) (l7 : Int), w85_66 T l5 l6 m l3 l7 = some res → sq_go G 85 66 [some (.ref (z + 0)), none, none, some (.long (Int64.ofInt l3)), none, some (.int (Int32.ofInt l5)), some (.int (Int32.ofInt l6)), some (.int (Int32.ofInt l7))] [] (sw_M z n sw_Ft T K) Q := by
  intro m
  induction m with
  | zero => intro l3 l7 h; cases h
  | succ m ih =>
    intro l3 l7 h
    rw [w85_66] at h
    refine go_l qd85_66 rfl ?_
    refine go_l qd85_68 rfl ?_
    obtain ⟨_u, e16, h⟩ := sw_bind h
    by_cases hb17 : l7 < l6
    · replace h := sw_ifY hb17 h
      refine ga_cgeY (t := 95) qd85_70 e16 hb17 rfl ?_
      refine ga_k64 (u := 31) qd85_73 qc85 ql5_225 rfl ?_
      refine go_l qd85_76 rfl ?_
      refine ga_lmul qd85_77 ?_
      refine go_l qd85_78 rfl ?_
      refine go_l qd85_79 rfl ?_
      refine go_l qd85_81 rfl ?_
      obtain ⟨r19, e18, h⟩ := sw_bind h
      refine ga_kv (a := 0) (as := [.int (Int32.ofInt l5), .int (Int32.ofInt l7)]) (rest := [.long (Int64.ofInt (31 * l3))]) qd85_83 qk85_276 (sw_sl hn (by decide)) rfl rfl rfl (Nat.le_of_ble_eq_true rfl) (Nat.le_of_ble_eq_true rfl) rfl (A73 hn e18 (fun r20 g22 => ?_) (fun E21 g23 => ?_))
      · refine sw_bkv ?_
        replace h := sw_elL g22 h
        obtain ⟨_u, e24, h⟩ := sw_bind h
        refine ga_i2l qd85_86 e24 ?_
        refine ga_ladd qd85_87 ?_
        refine go_l (L' := [some (.ref (z + 0)), none, none, some (.long (Int64.ofInt ((31 * l3) + r20))), none, some (.int (Int32.ofInt l5)), some (.int (Int32.ofInt l6)), some (.int (Int32.ofInt l7))]) (st' := []) qd85_88 rfl ?_
        refine ga_ii (L' := [some (.ref (z + 0)), none, none, some (.long (Int64.ofInt ((31 * l3) + r20))), none, some (.int (Int32.ofInt l5)), some (.int (Int32.ofInt l6)), some (.int (Int32.ofInt (l7 + 1)))]) qd85_89 rfl rfl ?_
        refine ga_jp (t := 66) qd85_92 rfl ?_
        exact sq_weak (L := [some (.ref (z + 0)), none, none, some (.long (Int64.ofInt ((31 * l3) + r20))), none, some (.int (Int32.ofInt l5)), some (.int (Int32.ofInt l6)), some (.int (Int32.ofInt (l7 + 1)))]) ⟨rfl, rfl, rfl, rfl, rfl, trivial⟩ (ih _ _ h)
      · replace h := sw_elR g23 h
        cases h
    · replace h := sw_ifN hb17 h
      refine ga_cgeN (t := 95) qd85_70 e16 hb17 rfl ?_
      rw [← sw_sj h] at kk
      exact sq_weak (L := [some (.ref (z + 0)), none, none, some (.long (Int64.ofInt l3)), none, some (.int (Int32.ofInt l5)), none, none]) ⟨rfl, rfl, rfl, trivial⟩ kk
def w85_5 (T : sw_T) : Nat → Int → Int → Option (Int)
  | 0, _, _ => none
  | m + 1, l3, l5 =>
    (sw_r2 l5 (T 1 1)).bind fun _u =>
    if l5 < (T 1 1) then
      (w85_20 T l5 sw_N l3 0).bind fun x12 =>
      (w18 1 T l5).bind fun r15 =>
      (w85_66 T l5 r15 sw_N x12 0).bind fun x25 =>
      (w77 T l5).bind fun r28 =>
      sw_el r28 (fun r29 =>
        (sw_r1 r29).bind fun _u =>
        w85_5 T m ((31 * x25) + r29) (l5 + 1)
      ) (fun E30 =>
      none)
    else
      some (l3)
theorem B85_5 {G : sp_G} {z n : Nat} (hn : 228 ≤ n) {T : sw_T} {K : sw_K} {res : Int} {Q : sp_R → sp_M → Prop} (kk : sq_go G 85 115 [none, none, none, some (.long (Int64.ofInt res)), none, none, none, none] [] (sw_M z n sw_Ft T K) Q) : ∀ (m : Nat) (l3 : Int) (l5 : Int), w85_5 T m l3 l5 = some res → sq_go G 85 5 [some (.ref (z + 0)), none, none, some (.long (Int64.ofInt l3)), none, some (.int (Int32.ofInt l5)), none, none] [] (sw_M z n sw_Ft T K) Q := by
  intro m
  induction m with
  | zero => intro l3 l5 h; cases h
  | succ m ih =>
    intro l3 l5 h
    rw [w85_5] at h
    refine go_l qd85_5 rfl ?_
    refine go_l qd85_7 rfl ?_
    refine ga_gf (v := .ref (z + 1)) qd85_8 qc85 qf5_10 (sw_sl hn (by decide)) rfl rfl ?_
    refine ga_gf (v := .int (Int32.ofInt (T 1 1))) qd85_11 qc85 qf5_40 (sw_sl hn (by decide)) rfl rfl ?_
    obtain ⟨_u, e1, h⟩ := sw_bind h
    by_cases hb2 : l5 < (T 1 1)
    · replace h := sw_ifY hb2 h
      refine ga_cgeY (t := 115) qd85_14 e1 hb2 rfl ?_
      refine go_s qd85_17 rfl ?_
      refine go_l (L' := [some (.ref (z + 0)), none, none, some (.long (Int64.ofInt l3)), none, some (.int (Int32.ofInt l5)), some (.int (Int32.ofInt 0)), none]) (st' := []) qd85_18 rfl ?_
      obtain ⟨x12, e13, h⟩ := sw_bind h
      refine sq_weak (L := [some (.ref (z + 0)), none, none, some (.long (Int64.ofInt l3)), none, some (.int (Int32.ofInt l5)), some (.int (Int32.ofInt 0)), none]) ⟨rfl, rfl, rfl, rfl, trivial⟩ (B85_20 hn (res := x12) ?_ _ _ _ e13)
      refine go_l qd85_49 rfl ?_
      refine ga_gf (v := .ref (z + 1)) qd85_50 qc85 qf5_10 (sw_sl hn (by decide)) rfl rfl ?_
      refine ga_gf (v := .ref (z + 11)) qd85_53 qc85 qf5_162 (sw_sl hn (by decide)) rfl rfl ?_
      refine go_l qd85_56 rfl ?_
      obtain ⟨r15, e14, h⟩ := sw_bind h
      refine ga_kv (a := 11) (as := [.int (Int32.ofInt l5)]) (rest := []) qd85_58 qk85_273 (sw_sl hn (by decide)) rfl rfl rfl (Nat.le_of_ble_eq_true rfl) (Nat.le_of_ble_eq_true rfl) rfl (A18 hn (by decide) e14 (sw_bkv ?_))
      refine go_l (L' := [some (.ref (z + 0)), none, none, some (.long (Int64.ofInt x12)), none, some (.int (Int32.ofInt l5)), some (.int (Int32.ofInt r15)), none]) (st' := []) qd85_61 rfl ?_
      refine go_s qd85_63 rfl ?_
      refine go_l (L' := [some (.ref (z + 0)), none, none, some (.long (Int64.ofInt x12)), none, some (.int (Int32.ofInt l5)), some (.int (Int32.ofInt r15)), some (.int (Int32.ofInt 0))]) (st' := []) qd85_64 rfl ?_
      obtain ⟨x25, e26, h⟩ := sw_bind h
      refine sq_weak (L := [some (.ref (z + 0)), none, none, some (.long (Int64.ofInt x12)), none, some (.int (Int32.ofInt l5)), some (.int (Int32.ofInt r15)), some (.int (Int32.ofInt 0))]) ⟨rfl, rfl, rfl, rfl, rfl, trivial⟩ (B85_66 hn (res := x25) ?_ _ _ _ e26)
      refine ga_k64 (u := 31) qd85_95 qc85 ql5_225 rfl ?_
      refine go_l qd85_98 rfl ?_
      refine ga_lmul qd85_99 ?_
      refine go_l qd85_100 rfl ?_
      refine go_l qd85_101 rfl ?_
      obtain ⟨r28, e27, h⟩ := sw_bind h
      refine ga_kv (a := 0) (as := [.int (Int32.ofInt l5)]) (rest := [.long (Int64.ofInt (31 * x25))]) qd85_103 qk85_279 (sw_sl hn (by decide)) rfl rfl rfl (Nat.le_of_ble_eq_true rfl) (Nat.le_of_ble_eq_true rfl) rfl (A77 hn e27 (fun r29 g31 => ?_) (fun E30 g32 => ?_))
      · refine sw_bkv ?_
        replace h := sw_elL g31 h
        obtain ⟨_u, e33, h⟩ := sw_bind h
        refine ga_i2l qd85_106 e33 ?_
        refine ga_ladd qd85_107 ?_
        refine go_l (L' := [some (.ref (z + 0)), none, none, some (.long (Int64.ofInt ((31 * x25) + r29))), none, some (.int (Int32.ofInt l5)), none, none]) (st' := []) qd85_108 rfl ?_
        refine ga_ii (L' := [some (.ref (z + 0)), none, none, some (.long (Int64.ofInt ((31 * x25) + r29))), none, some (.int (Int32.ofInt (l5 + 1))), none, none]) qd85_109 rfl rfl ?_
        refine ga_jp (t := 5) qd85_112 rfl ?_
        exact sq_weak (L := [some (.ref (z + 0)), none, none, some (.long (Int64.ofInt ((31 * x25) + r29))), none, some (.int (Int32.ofInt (l5 + 1))), none, none]) ⟨rfl, rfl, rfl, trivial⟩ (ih _ _ h)
      · replace h := sw_elR g32 h
        cases h
    · replace h := sw_ifN hb2 h
      refine ga_cgeN (t := 115) qd85_14 e1 hb2 rfl ?_
      rw [← sw_sj h] at kk
      exact sq_weak (L := [none, none, none, some (.long (Int64.ofInt l3)), none, none, none, none]) ⟨rfl, trivial⟩ kk
def w85 (T : sw_T) (p1 : Int) : Option (Int) :=
  (w85_5 T sw_N p1 0).bind fun x34 =>
  some (x34)
theorem A85 {G : sp_G} {z n : Nat} (hn : 228 ≤ n) {T : sw_T} {K : sw_K} {p1 : Int} {res : Int} {Q : sp_R → sp_M → Prop} (h : w85 T p1 = some res) (kk : Q (.inl (some (.long (Int64.ofInt res)))) (sw_M z n sw_Ft T K)) : sq_go G 85 0 [some (.ref (z + 0)), some (.long (Int64.ofInt p1)), none, none, none, none, none, none] [] (sw_M z n sw_Ft T K) Q := by
  unfold w85 at h
  refine go_l qd85_0 rfl ?_
  refine go_l (L' := [some (.ref (z + 0)), some (.long (Int64.ofInt p1)), none, some (.long (Int64.ofInt p1)), none, none, none, none]) (st' := []) qd85_1 rfl ?_
  refine go_s qd85_2 rfl ?_
  refine go_l (L' := [some (.ref (z + 0)), some (.long (Int64.ofInt p1)), none, some (.long (Int64.ofInt p1)), none, some (.int (Int32.ofInt 0)), none, none]) (st' := []) qd85_3 rfl ?_
  obtain ⟨x34, e35, h⟩ := sw_bind h
  refine sq_weak (L := [some (.ref (z + 0)), none, none, some (.long (Int64.ofInt p1)), none, some (.int (Int32.ofInt 0)), none, none]) ⟨rfl, rfl, rfl, trivial⟩ (B85_5 hn (res := x34) ?_ _ _ _ e35)
  refine go_l qd85_115 rfl ?_
  rw [← sw_sj h] at kk
  exact ga_rl qd85_116 qr85 kk
theorem qc86 : sq_c 86 = 5 := by decide +kernel
theorem qk86_282 : sw_ck 86 282 74 0 2 5 3 = true := by decide +kernel
theorem qr86 : sq_ret 86 = some .long := by decide +kernel
-- 86: SewingPiles.addShirts(J)J
def w86_23 (T : sw_T) (l5 : Int) : Nat → Int → Int → Option (Int)
  | 0, _, _ => none
  | m + 1, l3, l6 =>
    (sw_r2 l6 3).bind fun _u =>
    if l6 < 3 then
      (w74 T l5 l6).bind fun r6 =>
      sw_el r6 (fun r7 =>
        (sw_r1 r7).bind fun _u =>
        w86_23 T l5 m ((31 * l3) + r7) (l6 + 1)
      ) (fun E8 =>
      none)
    else
      some (l3)
theorem B86_23 {G : sp_G} {z n : Nat} (hn : 228 ≤ n) {T : sw_T} {l5 : Int} {K : sw_K} {res : Int} {Q : sp_R → sp_M → Prop} (kk : sq_go G 86 51 [some (.ref (z + 0)), none, none, some (.long (Int64.ofInt res)), none, some (.int (Int32.ofInt l5)), none] [] (sw_M z n sw_Ft T K) Q) : ∀ (m : Nat) (l3 : Int) (l6 : Int), w86_23 T l5 m l3 l6 = some res → sq_go G 86 23 [some (.ref (z + 0)), none, none, some (.long (Int64.ofInt l3)), none, some (.int (Int32.ofInt l5)), some (.int (Int32.ofInt l6))] [] (sw_M z n sw_Ft T K) Q := by
  intro m
  induction m with
  | zero => intro l3 l6 h; cases h
  | succ m ih =>
    intro l3 l6 h
    rw [w86_23] at h
    refine go_l qd86_23 rfl ?_
    refine go_s qd86_25 rfl ?_
    obtain ⟨_u, e3, h⟩ := sw_bind h
    by_cases hb4 : l6 < 3
    · replace h := sw_ifY hb4 h
      refine ga_cgeY (t := 51) qd86_26 e3 hb4 rfl ?_
      refine ga_k64 (u := 31) qd86_29 qc86 ql5_225 rfl ?_
      refine go_l qd86_32 rfl ?_
      refine ga_lmul qd86_33 ?_
      refine go_l qd86_34 rfl ?_
      refine go_l qd86_35 rfl ?_
      refine go_l qd86_37 rfl ?_
      obtain ⟨r6, e5, h⟩ := sw_bind h
      refine ga_kv (a := 0) (as := [.int (Int32.ofInt l5), .int (Int32.ofInt l6)]) (rest := [.long (Int64.ofInt (31 * l3))]) qd86_39 qk86_282 (sw_sl hn (by decide)) rfl rfl rfl (Nat.le_of_ble_eq_true rfl) (Nat.le_of_ble_eq_true rfl) rfl (A74 hn e5 (fun r7 g9 => ?_) (fun E8 g10 => ?_))
      · refine sw_bkv ?_
        replace h := sw_elL g9 h
        obtain ⟨_u, e11, h⟩ := sw_bind h
        refine ga_i2l qd86_42 e11 ?_
        refine ga_ladd qd86_43 ?_
        refine go_l (L' := [some (.ref (z + 0)), none, none, some (.long (Int64.ofInt ((31 * l3) + r7))), none, some (.int (Int32.ofInt l5)), some (.int (Int32.ofInt l6))]) (st' := []) qd86_44 rfl ?_
        refine ga_ii (L' := [some (.ref (z + 0)), none, none, some (.long (Int64.ofInt ((31 * l3) + r7))), none, some (.int (Int32.ofInt l5)), some (.int (Int32.ofInt (l6 + 1)))]) qd86_45 rfl rfl ?_
        refine ga_jp (t := 23) qd86_48 rfl ?_
        exact sq_weak (L := [some (.ref (z + 0)), none, none, some (.long (Int64.ofInt ((31 * l3) + r7))), none, some (.int (Int32.ofInt l5)), some (.int (Int32.ofInt (l6 + 1)))]) ⟨rfl, rfl, rfl, rfl, trivial⟩ (ih _ _ h)
      · replace h := sw_elR g10 h
        cases h
    · replace h := sw_ifN hb4 h
      refine ga_cgeN (t := 51) qd86_26 e3 hb4 rfl ?_
      rw [← sw_sj h] at kk
      exact sq_weak (L := [some (.ref (z + 0)), none, none, some (.long (Int64.ofInt l3)), none, some (.int (Int32.ofInt l5)), none]) ⟨rfl, rfl, rfl, trivial⟩ kk
def w86_5 (T : sw_T) : Nat → Int → Int → Option (Int)
  | 0, _, _ => none
  | m + 1, l3, l5 =>
    (sw_r2 l5 (T 21 0)).bind fun _u =>
    if l5 < (T 21 0) then
      (w86_23 T l5 sw_N l3 0).bind fun x12 =>
      w86_5 T m x12 (l5 + 1)
    else
      some (l3)
theorem B86_5 {G : sp_G} {z n : Nat} (hn : 228 ≤ n) {T : sw_T} {K : sw_K} {res : Int} {Q : sp_R → sp_M → Prop} (kk : sq_go G 86 57 [none, none, none, some (.long (Int64.ofInt res)), none, none, none] [] (sw_M z n sw_Ft T K) Q) : ∀ (m : Nat) (l3 : Int) (l5 : Int), w86_5 T m l3 l5 = some res → sq_go G 86 5 [some (.ref (z + 0)), none, none, some (.long (Int64.ofInt l3)), none, some (.int (Int32.ofInt l5)), none] [] (sw_M z n sw_Ft T K) Q := by
  intro m
  induction m with
  | zero => intro l3 l5 h; cases h
  | succ m ih =>
    intro l3 l5 h
    rw [w86_5] at h
    refine go_l qd86_5 rfl ?_
    refine go_l qd86_7 rfl ?_
    refine ga_gf (v := .ref (z + 1)) qd86_8 qc86 qf5_10 (sw_sl hn (by decide)) rfl rfl ?_
    refine ga_gf (v := .ref (z + 21)) qd86_11 qc86 qf5_171 (sw_sl hn (by decide)) rfl rfl ?_
    refine ga_gf (v := .int (Int32.ofInt (T 21 0))) qd86_14 qc86 qf5_175 (sw_sl hn (by decide)) rfl rfl ?_
    obtain ⟨_u, e1, h⟩ := sw_bind h
    by_cases hb2 : l5 < (T 21 0)
    · replace h := sw_ifY hb2 h
      refine ga_cgeY (t := 57) qd86_17 e1 hb2 rfl ?_
      refine go_s qd86_20 rfl ?_
      refine go_l (L' := [some (.ref (z + 0)), none, none, some (.long (Int64.ofInt l3)), none, some (.int (Int32.ofInt l5)), some (.int (Int32.ofInt 0))]) (st' := []) qd86_21 rfl ?_
      obtain ⟨x12, e13, h⟩ := sw_bind h
      refine sq_weak (L := [some (.ref (z + 0)), none, none, some (.long (Int64.ofInt l3)), none, some (.int (Int32.ofInt l5)), some (.int (Int32.ofInt 0))]) ⟨rfl, rfl, rfl, rfl, trivial⟩ (B86_23 hn (res := x12) ?_ _ _ _ e13)
      refine ga_ii (L' := [some (.ref (z + 0)), none, none, some (.long (Int64.ofInt x12)), none, some (.int (Int32.ofInt (l5 + 1))), none]) qd86_51 rfl rfl ?_
      refine ga_jp (t := 5) qd86_54 rfl ?_
      exact sq_weak (L := [some (.ref (z + 0)), none, none, some (.long (Int64.ofInt x12)), none, some (.int (Int32.ofInt (l5 + 1))), none]) ⟨rfl, rfl, rfl, trivial⟩ (ih _ _ h)
    · replace h := sw_ifN hb2 h
      refine ga_cgeN (t := 57) qd86_17 e1 hb2 rfl ?_
      rw [← sw_sj h] at kk
      exact sq_weak (L := [none, none, none, some (.long (Int64.ofInt l3)), none, none, none]) ⟨rfl, trivial⟩ kk
def w86 (T : sw_T) (p1 : Int) : Option (Int) :=
  (w86_5 T sw_N p1 0).bind fun x14 =>
  some (x14)
theorem A86 {G : sp_G} {z n : Nat} (hn : 228 ≤ n) {T : sw_T} {K : sw_K} {p1 : Int} {res : Int} {Q : sp_R → sp_M → Prop} (h : w86 T p1 = some res) (kk : Q (.inl (some (.long (Int64.ofInt res)))) (sw_M z n sw_Ft T K)) : sq_go G 86 0 [some (.ref (z + 0)), some (.long (Int64.ofInt p1)), none, none, none, none, none] [] (sw_M z n sw_Ft T K) Q := by
  unfold w86 at h
  refine go_l qd86_0 rfl ?_
  refine go_l (L' := [some (.ref (z + 0)), some (.long (Int64.ofInt p1)), none, some (.long (Int64.ofInt p1)), none, none, none]) (st' := []) qd86_1 rfl ?_
  refine go_s qd86_2 rfl ?_
  refine go_l (L' := [some (.ref (z + 0)), some (.long (Int64.ofInt p1)), none, some (.long (Int64.ofInt p1)), none, some (.int (Int32.ofInt 0)), none]) (st' := []) qd86_3 rfl ?_
  obtain ⟨x14, e15, h⟩ := sw_bind h
  refine sq_weak (L := [some (.ref (z + 0)), none, none, some (.long (Int64.ofInt p1)), none, some (.int (Int32.ofInt 0)), none]) ⟨rfl, rfl, rfl, trivial⟩ (B86_5 hn (res := x14) ?_ _ _ _ e15)
  refine go_l qd86_57 rfl ?_
  rw [← sw_sj h] at kk
  exact ga_rl qd86_58 qr86 kk
theorem qc88 : sq_c 88 = 5 := by decide +kernel
theorem ql5_288 : sp_fd sp_clT 5 288 = none := by decide +kernel
theorem qld5_288 : sp_fd sp_cdT 5 288 = some 4611686018427387904 := by decide +kernel
theorem ql5_290 : sp_fd sp_clT 5 290 = none := by decide +kernel
theorem qld5_290 : sp_fd sp_cdT 5 290 = some 4841369599423283200 := by decide +kernel
theorem qr88 : sq_ret 88 = some .long := by decide +kernel
-- 88: SewingPiles.bitsOfDouble(D)J
def w88_15 (T : sw_T) : Nat → UInt64 → Int → Option (UInt64 × Int)
  | 0, _, _ => none
  | m + 1, l2, l4 =>
    (sw_r1 ((Op.cmpValue (FP.dcmp l2 (sp_dc 1)) .g).toInt)).bind fun _u =>
    if ((Op.cmpValue (FP.dcmp l2 (sp_dc 1)) .g).toInt) < 0 then
      (sw_r2 l4 1).bind fun _u =>
      if 1 < l4 then
        (sw_k64 (FP.dmul l2 4611686018427387904)).bind fun _u =>
        w88_15 T m (FP.dmul l2 4611686018427387904) (l4 + (-1))
      else
        some ((l2, l4))
    else
      some ((l2, l4))
theorem B88_15 {G : sp_G} {z n : Nat} (hn : 228 ≤ n) {T : sw_T} {K : sw_K} {res : UInt64 × Int} {Q : sp_R → sp_M → Prop} (kk : sq_go G 88 39 [none, none, some (.double res.1), none, some (.int (Int32.ofInt res.2)), none, none] [] (sw_M z n sw_Ft T K) Q) : ∀ (m : Nat) (l2 : UInt64) (l4 : Int), w88_15 T m l2 l4 = some res → sq_go G 88 15 [none, none, some (.double l2), none, some (.int (Int32.ofInt l4)), none, none] [] (sw_M z n sw_Ft T K) Q := by
  intro m
  induction m with
  | zero => intro l2 l4 h; cases h
  | succ m ih =>
    intro l2 l4 h
    rw [w88_15] at h
    refine go_l qd88_15 rfl ?_
    refine go_s qd88_16 rfl ?_
    refine ga_dcmp qd88_17 ?_
    obtain ⟨_u, e3, h⟩ := sw_bind h
    by_cases hb4 : ((Op.cmpValue (FP.dcmp l2 (sp_dc 1)) .g).toInt) < 0
    · replace h := sw_ifY hb4 h
      refine ga_zgeY (t := 39) qd88_18 e3 hb4 rfl ?_
      refine go_l qd88_21 rfl ?_
      refine go_s qd88_23 rfl ?_
      obtain ⟨_u, e5, h⟩ := sw_bind h
      by_cases hb6 : 1 < l4
      · replace h := sw_ifY hb6 h
        refine ga_cleY (t := 39) qd88_24 e5 hb6 rfl ?_
        refine go_l qd88_27 rfl ?_
        refine ga_kd qd88_28 qc88 ql5_288 qld5_288 ?_
        obtain ⟨_u, e7, h⟩ := sw_bind h
        refine ga_dmul qd88_31 e7 ?_
        refine go_l (L' := [none, none, some (.double (FP.dmul l2 4611686018427387904)), none, some (.int (Int32.ofInt l4)), none, none]) (st' := []) qd88_32 rfl ?_
        refine ga_ii (L' := [none, none, some (.double (FP.dmul l2 4611686018427387904)), none, some (.int (Int32.ofInt (l4 + (-1)))), none, none]) qd88_33 rfl rfl ?_
        refine ga_jp (t := 15) qd88_36 rfl ?_
        exact sq_weak (L := [none, none, some (.double (FP.dmul l2 4611686018427387904)), none, some (.int (Int32.ofInt (l4 + (-1)))), none, none]) ⟨rfl, rfl, trivial⟩ (ih _ _ h)
      · replace h := sw_ifN hb6 h
        refine ga_cleN (t := 39) qd88_24 e5 hb6 rfl ?_
        rw [← sw_sj h] at kk
        exact sq_weak (L := [none, none, some (.double l2), none, some (.int (Int32.ofInt l4)), none, none]) ⟨rfl, rfl, trivial⟩ kk
    · replace h := sw_ifN hb4 h
      refine ga_zgeN (t := 39) qd88_18 e3 hb4 rfl ?_
      rw [← sw_sj h] at kk
      exact sq_weak (L := [none, none, some (.double l2), none, some (.int (Int32.ofInt l4)), none, none]) ⟨rfl, rfl, trivial⟩ kk
def w88_39 (T : sw_T) (l2 : UInt64) (l4 : Int) : Option (Int) :=
  (sw_k64 (FP.dsub l2 (sp_dc 1))).bind fun _u =>
  (sw_k64 (FP.dmul (FP.dsub l2 (sp_dc 1)) 4841369599423283200)).bind fun _u =>
  (sw_r1 l4).bind fun _u =>
  some (((l4 * 4503599627370496) + ((FP.d2l (FP.dmul (FP.dsub l2 (sp_dc 1)) 4841369599423283200)).toInt)))
theorem B88_39 {G : sp_G} {z n : Nat} (hn : 228 ≤ n) {T : sw_T} {K : sw_K} {l2 : UInt64} {l4 : Int} {res : Int} {Q : sp_R → sp_M → Prop} (h : w88_39 T l2 l4 = some res) (kk : Q (.inl (some (.long (Int64.ofInt res)))) (sw_M z n sw_Ft T K)) : sq_go G 88 39 [none, none, some (.double l2), none, some (.int (Int32.ofInt l4)), none, none] [] (sw_M z n sw_Ft T K) Q := by
  unfold w88_39 at h
  refine go_l qd88_39 rfl ?_
  refine go_s qd88_40 rfl ?_
  obtain ⟨_u, e10, h⟩ := sw_bind h
  refine ga_dsub qd88_41 e10 ?_
  refine ga_kd qd88_42 qc88 ql5_290 qld5_290 ?_
  obtain ⟨_u, e11, h⟩ := sw_bind h
  refine ga_dmul qd88_45 e11 ?_
  refine ga_d2l qd88_46 ?_
  refine go_l (L' := [none, none, some (.double l2), none, some (.int (Int32.ofInt l4)), some (.long (Int64.ofInt ((FP.d2l (FP.dmul (FP.dsub l2 (sp_dc 1)) 4841369599423283200)).toInt))), none]) (st' := []) qd88_47 rfl ?_
  refine go_l qd88_49 rfl ?_
  obtain ⟨_u, e12, h⟩ := sw_bind h
  refine ga_i2l qd88_51 e12 ?_
  refine ga_k8 qd88_52 rfl ?_
  refine ga_lshl qd88_54 ?_
  refine go_l qd88_55 rfl ?_
  refine ga_ladd qd88_57 ?_
  rw [← sw_sj h] at kk
  exact ga_rl qd88_58 qr88 kk
def w88 (T : sw_T) (p0 : UInt64) : Option (Int) :=
  (sw_r1 ((Op.cmpValue (FP.dcmp p0 (sp_dc 0)) .l).toInt)).bind fun _u =>
  if 0 < ((Op.cmpValue (FP.dcmp p0 (sp_dc 0)) .l).toInt) then
    (w88_15 T sw_N p0 1023).bind fun x8 =>
    w88_39 T x8.1 x8.2
  else
    some (0)
theorem A88 {G : sp_G} {z n : Nat} (hn : 228 ≤ n) {T : sw_T} {K : sw_K} {p0 : UInt64} {res : Int} {Q : sp_R → sp_M → Prop} (h : w88 T p0 = some res) (kk : Q (.inl (some (.long (Int64.ofInt res)))) (sw_M z n sw_Ft T K)) : sq_go G 88 0 [some (.double p0), none, none, none, none, none, none] [] (sw_M z n sw_Ft T K) Q := by
  unfold w88 at h
  refine go_l qd88_0 rfl ?_
  refine go_s qd88_1 rfl ?_
  refine ga_dcmp qd88_2 ?_
  obtain ⟨_u, e1, h⟩ := sw_bind h
  by_cases hb2 : 0 < ((Op.cmpValue (FP.dcmp p0 (sp_dc 0)) .l).toInt)
  · replace h := sw_ifY hb2 h
    refine ga_zgtY (t := 8) qd88_3 e1 hb2 rfl ?_
    refine go_l qd88_8 rfl ?_
    refine go_l (L' := [some (.double p0), none, some (.double p0), none, none, none, none]) (st' := []) qd88_9 rfl ?_
    refine ga_k16 qd88_10 rfl ?_
    refine go_l (L' := [some (.double p0), none, some (.double p0), none, some (.int (Int32.ofInt 1023)), none, none]) (st' := []) qd88_13 rfl ?_
    obtain ⟨x8, e9, h⟩ := sw_bind h
    refine sq_weak (L := [none, none, some (.double p0), none, some (.int (Int32.ofInt 1023)), none, none]) ⟨rfl, rfl, trivial⟩ (B88_15 hn (res := x8) ?_ _ _ _ e9)
    exact sq_weak (L := [none, none, some (.double x8.1), none, some (.int (Int32.ofInt x8.2)), none, none]) ⟨rfl, rfl, trivial⟩ (B88_39 hn h kk)
  · replace h := sw_ifN hb2 h
    refine ga_zgtN (t := 8) qd88_3 e1 hb2 rfl ?_
    refine ga_kl (u := 0) qd88_6 rfl ?_
    rw [← sw_sj h] at kk
    exact ga_rl qd88_7 qr88 kk
theorem qc89 : sq_c 89 = 5 := by decide +kernel
theorem qlf5_292 : sp_fd sp_cfT 5 292 = some 1258291200 := by decide +kernel
theorem qr89 : sq_ret 89 = some .int := by decide +kernel
-- 89: SewingPiles.bitsOfFloat(F)I
def w89_13 (T : sw_T) : Nat → UInt32 → Int → Option (UInt32 × Int)
  | 0, _, _ => none
  | m + 1, l1, l2 =>
    (sw_r1 ((Op.cmpValue (FP.fcmp l1 (sp_fc 1)) .g).toInt)).bind fun _u =>
    if ((Op.cmpValue (FP.fcmp l1 (sp_fc 1)) .g).toInt) < 0 then
      (sw_r2 l2 1).bind fun _u =>
      if 1 < l2 then
        (sw_k32 (FP.fmul l1 (sp_fc 2))).bind fun _u =>
        w89_13 T m (FP.fmul l1 (sp_fc 2)) (l2 + (-1))
      else
        some ((l1, l2))
    else
      some ((l1, l2))
theorem B89_13 {G : sp_G} {z n : Nat} (hn : 228 ≤ n) {T : sw_T} {K : sw_K} {res : UInt32 × Int} {Q : sp_R → sp_M → Prop} (kk : sq_go G 89 34 [none, some (.float res.1), some (.int (Int32.ofInt res.2)), none] [] (sw_M z n sw_Ft T K) Q) : ∀ (m : Nat) (l1 : UInt32) (l2 : Int), w89_13 T m l1 l2 = some res → sq_go G 89 13 [none, some (.float l1), some (.int (Int32.ofInt l2)), none] [] (sw_M z n sw_Ft T K) Q := by
  intro m
  induction m with
  | zero => intro l1 l2 h; cases h
  | succ m ih =>
    intro l1 l2 h
    rw [w89_13] at h
    refine go_l qd89_13 rfl ?_
    refine go_s qd89_14 rfl ?_
    refine ga_fcmp qd89_15 ?_
    obtain ⟨_u, e3, h⟩ := sw_bind h
    by_cases hb4 : ((Op.cmpValue (FP.fcmp l1 (sp_fc 1)) .g).toInt) < 0
    · replace h := sw_ifY hb4 h
      refine ga_zgeY (t := 34) qd89_16 e3 hb4 rfl ?_
      refine go_l qd89_19 rfl ?_
      refine go_s qd89_20 rfl ?_
      obtain ⟨_u, e5, h⟩ := sw_bind h
      by_cases hb6 : 1 < l2
      · replace h := sw_ifY hb6 h
        refine ga_cleY (t := 34) qd89_21 e5 hb6 rfl ?_
        refine go_l qd89_24 rfl ?_
        refine go_s qd89_25 rfl ?_
        obtain ⟨_u, e7, h⟩ := sw_bind h
        refine ga_fmul qd89_26 e7 ?_
        refine go_l (L' := [none, some (.float (FP.fmul l1 (sp_fc 2))), some (.int (Int32.ofInt l2)), none]) (st' := []) qd89_27 rfl ?_
        refine ga_ii (L' := [none, some (.float (FP.fmul l1 (sp_fc 2))), some (.int (Int32.ofInt (l2 + (-1)))), none]) qd89_28 rfl rfl ?_
        refine ga_jp (t := 13) qd89_31 rfl ?_
        exact sq_weak (L := [none, some (.float (FP.fmul l1 (sp_fc 2))), some (.int (Int32.ofInt (l2 + (-1)))), none]) ⟨rfl, rfl, trivial⟩ (ih _ _ h)
      · replace h := sw_ifN hb6 h
        refine ga_cleN (t := 34) qd89_21 e5 hb6 rfl ?_
        rw [← sw_sj h] at kk
        exact sq_weak (L := [none, some (.float l1), some (.int (Int32.ofInt l2)), none]) ⟨rfl, rfl, trivial⟩ kk
    · replace h := sw_ifN hb4 h
      refine ga_zgeN (t := 34) qd89_16 e3 hb4 rfl ?_
      rw [← sw_sj h] at kk
      exact sq_weak (L := [none, some (.float l1), some (.int (Int32.ofInt l2)), none]) ⟨rfl, rfl, trivial⟩ kk
def w89 (T : sw_T) (p0 : UInt32) : Option (Int) :=
  (sw_r1 ((Op.cmpValue (FP.fcmp p0 (sp_fc 0)) .l).toInt)).bind fun _u =>
  if 0 < ((Op.cmpValue (FP.fcmp p0 (sp_fc 0)) .l).toInt) then
    (w89_13 T sw_N p0 127).bind fun x8 =>
    (sw_k32 (FP.fsub x8.1 (sp_fc 1))).bind fun _u =>
    (sw_k32 (FP.fmul (FP.fsub x8.1 (sp_fc 1)) 1258291200)).bind fun _u =>
    some (((x8.2 * 8388608) + ((FP.f2i (FP.fmul (FP.fsub x8.1 (sp_fc 1)) 1258291200)).toInt)))
  else
    some (0)
theorem A89 {G : sp_G} {z n : Nat} (hn : 228 ≤ n) {T : sw_T} {K : sw_K} {p0 : UInt32} {res : Int} {Q : sp_R → sp_M → Prop} (h : w89 T p0 = some res) (kk : Q (.inl (some (.int (Int32.ofInt res)))) (sw_M z n sw_Ft T K)) : sq_go G 89 0 [some (.float p0), none, none, none] [] (sw_M z n sw_Ft T K) Q := by
  unfold w89 at h
  refine go_l qd89_0 rfl ?_
  refine go_s qd89_1 rfl ?_
  refine ga_fcmp qd89_2 ?_
  obtain ⟨_u, e1, h⟩ := sw_bind h
  by_cases hb2 : 0 < ((Op.cmpValue (FP.fcmp p0 (sp_fc 0)) .l).toInt)
  · replace h := sw_ifY hb2 h
    refine ga_zgtY (t := 8) qd89_3 e1 hb2 rfl ?_
    refine go_l qd89_8 rfl ?_
    refine go_l (L' := [some (.float p0), some (.float p0), none, none]) (st' := []) qd89_9 rfl ?_
    refine ga_k8 qd89_10 rfl ?_
    refine go_l (L' := [some (.float p0), some (.float p0), some (.int (Int32.ofInt 127)), none]) (st' := []) qd89_12 rfl ?_
    obtain ⟨x8, e9, h⟩ := sw_bind h
    refine sq_weak (L := [none, some (.float p0), some (.int (Int32.ofInt 127)), none]) ⟨rfl, rfl, trivial⟩ (B89_13 hn (res := x8) ?_ _ _ _ e9)
    refine go_l qd89_34 rfl ?_
    refine go_s qd89_35 rfl ?_
    obtain ⟨_u, e10, h⟩ := sw_bind h
    refine ga_fsub qd89_36 e10 ?_
    refine ga_kf qd89_37 qc89 qlf5_292 ?_
    obtain ⟨_u, e11, h⟩ := sw_bind h
    refine ga_fmul qd89_40 e11 ?_
    refine ga_f2i qd89_41 ?_
    refine go_l (L' := [none, some (.float x8.1), some (.int (Int32.ofInt x8.2)), some (.int (Int32.ofInt ((FP.f2i (FP.fmul (FP.fsub x8.1 (sp_fc 1)) 1258291200)).toInt)))]) (st' := []) qd89_42 rfl ?_
    refine go_l qd89_43 rfl ?_
    refine ga_k8 qd89_44 rfl ?_
    refine ga_ishl qd89_46 ?_
    refine go_l qd89_47 rfl ?_
    refine ga_iadd qd89_48 ?_
    rw [← sw_sj h] at kk
    exact ga_ri qd89_49 qr89 kk
  · replace h := sw_ifN hb2 h
    refine ga_zgtN (t := 8) qd89_3 e1 hb2 rfl ?_
    refine go_s qd89_6 rfl ?_
    rw [← sw_sj h] at kk
    exact ga_ri qd89_7 qr89 kk
theorem qc87 : sq_c 87 = 5 := by decide +kernel
theorem qk87_285 : sw_ck 87 285 7 0 1 1 2 = true := by decide +kernel
theorem qr87 : sq_ret 87 = some .long := by decide +kernel
-- 87: SewingPiles.addText(J)J
def w87_18 (T : sw_T) : Nat → Int → Int → Option (Int)
  | 0, _, _ => none
  | m + 1, l3, l5 =>
    (sw_r2 l5 (T 219 1)).bind fun _u =>
    if l5 < (T 219 1) then
      (w7 T l5).bind fun r5 =>
      (sw_r1 r5).bind fun _u =>
      w87_18 T m ((31 * l3) + r5) (l5 + 1)
    else
      some (l3)
theorem B87_18 {G : sp_G} {z n : Nat} (hn : 228 ≤ n) {T : sw_T} {K : sw_K} {res : Int} {Q : sp_R → sp_M → Prop} (kk : sq_go G 87 53 [none, none, none, some (.long (Int64.ofInt res)), none, none] [] (sw_M z n sw_Ft T K) Q) : ∀ (m : Nat) (l3 : Int) (l5 : Int), w87_18 T m l3 l5 = some res → sq_go G 87 18 [some (.ref (z + 0)), none, none, some (.long (Int64.ofInt l3)), none, some (.int (Int32.ofInt l5))] [] (sw_M z n sw_Ft T K) Q := by
  intro m
  induction m with
  | zero => intro l3 l5 h; cases h
  | succ m ih =>
    intro l3 l5 h
    rw [w87_18] at h
    refine go_l qd87_18 rfl ?_
    refine go_l qd87_20 rfl ?_
    refine ga_gf (v := .ref (z + 219)) qd87_21 qc87 qf5_32 (sw_sl hn (by decide)) rfl rfl ?_
    refine ga_gf (v := .int (Int32.ofInt (T 219 1))) qd87_24 qc87 qf5_109 (sw_sl hn (by decide)) rfl rfl ?_
    obtain ⟨_u, e2, h⟩ := sw_bind h
    by_cases hb3 : l5 < (T 219 1)
    · replace h := sw_ifY hb3 h
      refine ga_cgeY (t := 53) qd87_27 e2 hb3 rfl ?_
      refine ga_k64 (u := 31) qd87_30 qc87 ql5_225 rfl ?_
      refine go_l qd87_33 rfl ?_
      refine ga_lmul qd87_34 ?_
      refine go_l qd87_35 rfl ?_
      refine ga_gf (v := .ref (z + 219)) qd87_36 qc87 qf5_32 (sw_sl hn (by decide)) rfl rfl ?_
      refine go_l qd87_39 rfl ?_
      obtain ⟨r5, e4, h⟩ := sw_bind h
      refine ga_kv (a := 219) (as := [.int (Int32.ofInt l5)]) (rest := [.long (Int64.ofInt (31 * l3))]) qd87_41 qk87_285 (sw_sl hn (by decide)) rfl rfl rfl (Nat.le_of_ble_eq_true rfl) (Nat.le_of_ble_eq_true rfl) rfl (A7 hn e4 (sw_bkv ?_))
      obtain ⟨_u, e6, h⟩ := sw_bind h
      refine ga_i2l qd87_44 e6 ?_
      refine ga_ladd qd87_45 ?_
      refine go_l (L' := [some (.ref (z + 0)), none, none, some (.long (Int64.ofInt ((31 * l3) + r5))), none, some (.int (Int32.ofInt l5))]) (st' := []) qd87_46 rfl ?_
      refine ga_ii (L' := [some (.ref (z + 0)), none, none, some (.long (Int64.ofInt ((31 * l3) + r5))), none, some (.int (Int32.ofInt (l5 + 1)))]) qd87_47 rfl rfl ?_
      refine ga_jp (t := 18) qd87_50 rfl ?_
      exact sq_weak (L := [some (.ref (z + 0)), none, none, some (.long (Int64.ofInt ((31 * l3) + r5))), none, some (.int (Int32.ofInt (l5 + 1)))]) ⟨rfl, rfl, rfl, trivial⟩ (ih _ _ h)
    · replace h := sw_ifN hb3 h
      refine ga_cgeN (t := 53) qd87_27 e2 hb3 rfl ?_
      rw [← sw_sj h] at kk
      exact sq_weak (L := [none, none, none, some (.long (Int64.ofInt l3)), none, none]) ⟨rfl, trivial⟩ kk
def w87 (T : sw_T) (p1 : Int) : Option (Int) :=
  (sw_r1 (T 219 1)).bind fun _u =>
  (w87_18 T sw_N ((31 * p1) + (T 219 1)) 0).bind fun x7 =>
  some (x7)
theorem A87 {G : sp_G} {z n : Nat} (hn : 228 ≤ n) {T : sw_T} {K : sw_K} {p1 : Int} {res : Int} {Q : sp_R → sp_M → Prop} (h : w87 T p1 = some res) (kk : Q (.inl (some (.long (Int64.ofInt res)))) (sw_M z n sw_Ft T K)) : sq_go G 87 0 [some (.ref (z + 0)), some (.long (Int64.ofInt p1)), none, none, none, none] [] (sw_M z n sw_Ft T K) Q := by
  unfold w87 at h
  refine ga_k64 (u := 31) qd87_0 qc87 ql5_225 rfl ?_
  refine go_l qd87_3 rfl ?_
  refine ga_lmul qd87_4 ?_
  refine go_l qd87_5 rfl ?_
  refine ga_gf (v := .ref (z + 219)) qd87_6 qc87 qf5_32 (sw_sl hn (by decide)) rfl rfl ?_
  refine ga_gf (v := .int (Int32.ofInt (T 219 1))) qd87_9 qc87 qf5_109 (sw_sl hn (by decide)) rfl rfl ?_
  obtain ⟨_u, e1, h⟩ := sw_bind h
  refine ga_i2l qd87_12 e1 ?_
  refine ga_ladd qd87_13 ?_
  refine go_l (L' := [some (.ref (z + 0)), some (.long (Int64.ofInt p1)), none, some (.long (Int64.ofInt ((31 * p1) + (T 219 1)))), none, none]) (st' := []) qd87_14 rfl ?_
  refine go_s qd87_15 rfl ?_
  refine go_l (L' := [some (.ref (z + 0)), some (.long (Int64.ofInt p1)), none, some (.long (Int64.ofInt ((31 * p1) + (T 219 1)))), none, some (.int (Int32.ofInt 0))]) (st' := []) qd87_16 rfl ?_
  obtain ⟨x7, e8, h⟩ := sw_bind h
  refine sq_weak (L := [some (.ref (z + 0)), none, none, some (.long (Int64.ofInt ((31 * p1) + (T 219 1)))), none, some (.int (Int32.ofInt 0))]) ⟨rfl, rfl, rfl, trivial⟩ (B87_18 hn (res := x7) ?_ _ _ _ e8)
  refine go_l qd87_53 rfl ?_
  rw [← sw_sj h] at kk
  exact ga_rl qd87_54 qr87 kk
theorem qc84 : sq_c 84 = 5 := by decide +kernel
theorem ql5_223 : sp_fd sp_clT 5 223 = some 3319 := by decide +kernel
theorem qk84_227 : sw_ck 84 227 75 0 1 5 2 = true := by decide +kernel
theorem qk84_229 : sw_ck 84 229 76 0 1 5 2 = true := by decide +kernel
theorem qk84_232 : sw_ck 84 232 85 0 1 5 8 = true := by decide +kernel
theorem qk84_236 : sw_ck 84 236 86 0 1 5 7 = true := by decide +kernel
theorem qk84_239 : sw_ck 84 239 78 0 0 5 1 = true := by decide +kernel
theorem qk84_242 : sw_ck 84 242 79 0 0 5 1 = true := by decide +kernel
theorem qk84_245 : sw_ck 84 245 80 0 1 5 2 = true := by decide +kernel
theorem qk84_248 : sw_ck 84 248 81 0 2 5 3 = true := by decide +kernel
theorem qk84_251 : sw_ck 84 251 82 0 0 5 1 = true := by decide +kernel
theorem qk84_255 : sw_ck 84 255 88 1 1 5 7 = true := by decide +kernel
theorem qk84_259 : sw_ck 84 259 83 0 0 5 5 = true := by decide +kernel
theorem qk84_263 : sw_ck 84 263 89 1 1 5 4 = true := by decide +kernel
theorem qk84_267 : sw_ck 84 267 87 0 1 5 6 = true := by decide +kernel
theorem qr84 : sq_ret 84 = some .long := by decide +kernel
-- 84: SewingPiles.digest()J
def w84_6 (T : sw_T) : Nat → Int → Int → Option (Int)
  | 0, _, _ => none
  | m + 1, l1, l3 =>
    (sw_r2 l3 12).bind fun _u =>
    if l3 < 12 then
      (w75 T l3).bind fun r4 =>
      sw_el r4 (fun r5 =>
        (sw_r1 r5).bind fun _u =>
        w84_6 T m ((31 * l1) + r5) (l3 + 1)
      ) (fun E6 =>
      none)
    else
      some (l1)
theorem B84_6 {G : sp_G} {z n : Nat} (hn : 228 ≤ n) {T : sw_T} {K : sw_K} {res : Int} {Q : sp_R → sp_M → Prop} (kk : sq_go G 84 31 [some (.ref (z + 0)), some (.long (Int64.ofInt res)), none, none] [] (sw_M z n sw_Ft T K) Q) : ∀ (m : Nat) (l1 : Int) (l3 : Int), w84_6 T m l1 l3 = some res → sq_go G 84 6 [some (.ref (z + 0)), some (.long (Int64.ofInt l1)), none, some (.int (Int32.ofInt l3))] [] (sw_M z n sw_Ft T K) Q := by
  intro m
  induction m with
  | zero => intro l1 l3 h; cases h
  | succ m ih =>
    intro l1 l3 h
    rw [w84_6] at h
    refine go_l qd84_6 rfl ?_
    refine ga_k8 qd84_7 rfl ?_
    obtain ⟨_u, e1, h⟩ := sw_bind h
    by_cases hb2 : l3 < 12
    · replace h := sw_ifY hb2 h
      refine ga_cgeY (t := 31) qd84_9 e1 hb2 rfl ?_
      refine ga_k64 (u := 31) qd84_12 qc84 ql5_225 rfl ?_
      refine go_l qd84_15 rfl ?_
      refine ga_lmul qd84_16 ?_
      refine go_l qd84_17 rfl ?_
      refine go_l qd84_18 rfl ?_
      obtain ⟨r4, e3, h⟩ := sw_bind h
      refine ga_kv (a := 0) (as := [.int (Int32.ofInt l3)]) (rest := [.long (Int64.ofInt (31 * l1))]) qd84_19 qk84_227 (sw_sl hn (by decide)) rfl rfl rfl (Nat.le_of_ble_eq_true rfl) (Nat.le_of_ble_eq_true rfl) rfl (A75 hn e3 (fun r5 g7 => ?_) (fun E6 g8 => ?_))
      · refine sw_bkv ?_
        replace h := sw_elL g7 h
        obtain ⟨_u, e9, h⟩ := sw_bind h
        refine ga_i2l qd84_22 e9 ?_
        refine ga_ladd qd84_23 ?_
        refine go_l (L' := [some (.ref (z + 0)), some (.long (Int64.ofInt ((31 * l1) + r5))), none, some (.int (Int32.ofInt l3))]) (st' := []) qd84_24 rfl ?_
        refine ga_ii (L' := [some (.ref (z + 0)), some (.long (Int64.ofInt ((31 * l1) + r5))), none, some (.int (Int32.ofInt (l3 + 1)))]) qd84_25 rfl rfl ?_
        refine ga_jp (t := 6) qd84_28 rfl ?_
        exact sq_weak (L := [some (.ref (z + 0)), some (.long (Int64.ofInt ((31 * l1) + r5))), none, some (.int (Int32.ofInt (l3 + 1)))]) ⟨rfl, rfl, rfl, trivial⟩ (ih _ _ h)
      · replace h := sw_elR g8 h
        cases h
    · replace h := sw_ifN hb2 h
      refine ga_cgeN (t := 31) qd84_9 e1 hb2 rfl ?_
      rw [← sw_sj h] at kk
      exact sq_weak (L := [some (.ref (z + 0)), some (.long (Int64.ofInt l1)), none, none]) ⟨rfl, rfl, trivial⟩ kk
def w84_33 (T : sw_T) : Nat → Int → Int → Option (Int)
  | 0, _, _ => none
  | m + 1, l1, l3 =>
    (sw_r2 l3 3).bind fun _u =>
    if l3 < 3 then
      (w76 T l3).bind fun r15 =>
      sw_el r15 (fun r16 =>
        (sw_r1 r16).bind fun _u =>
        w84_33 T m ((31 * l1) + r16) (l3 + 1)
      ) (fun E17 =>
      none)
    else
      some (l1)
theorem B84_33 {G : sp_G} {z n : Nat} (hn : 228 ≤ n) {T : sw_T} {K : sw_K} {res : Int} {Q : sp_R → sp_M → Prop} (kk : sq_go G 84 57 [some (.ref (z + 0)), some (.long (Int64.ofInt res)), none, none] [] (sw_M z n sw_Ft T K) Q) : ∀ (m : Nat) (l1 : Int) (l3 : Int), w84_33 T m l1 l3 = some res → sq_go G 84 33 [some (.ref (z + 0)), some (.long (Int64.ofInt l1)), none, some (.int (Int32.ofInt l3))] [] (sw_M z n sw_Ft T K) Q := by
  intro m
  induction m with
  | zero => intro l1 l3 h; cases h
  | succ m ih =>
    intro l1 l3 h
    rw [w84_33] at h
    refine go_l qd84_33 rfl ?_
    refine go_s qd84_34 rfl ?_
    obtain ⟨_u, e12, h⟩ := sw_bind h
    by_cases hb13 : l3 < 3
    · replace h := sw_ifY hb13 h
      refine ga_cgeY (t := 57) qd84_35 e12 hb13 rfl ?_
      refine ga_k64 (u := 31) qd84_38 qc84 ql5_225 rfl ?_
      refine go_l qd84_41 rfl ?_
      refine ga_lmul qd84_42 ?_
      refine go_l qd84_43 rfl ?_
      refine go_l qd84_44 rfl ?_
      obtain ⟨r15, e14, h⟩ := sw_bind h
      refine ga_kv (a := 0) (as := [.int (Int32.ofInt l3)]) (rest := [.long (Int64.ofInt (31 * l1))]) qd84_45 qk84_229 (sw_sl hn (by decide)) rfl rfl rfl (Nat.le_of_ble_eq_true rfl) (Nat.le_of_ble_eq_true rfl) rfl (A76 hn e14 (fun r16 g18 => ?_) (fun E17 g19 => ?_))
      · refine sw_bkv ?_
        replace h := sw_elL g18 h
        obtain ⟨_u, e20, h⟩ := sw_bind h
        refine ga_i2l qd84_48 e20 ?_
        refine ga_ladd qd84_49 ?_
        refine go_l (L' := [some (.ref (z + 0)), some (.long (Int64.ofInt ((31 * l1) + r16))), none, some (.int (Int32.ofInt l3))]) (st' := []) qd84_50 rfl ?_
        refine ga_ii (L' := [some (.ref (z + 0)), some (.long (Int64.ofInt ((31 * l1) + r16))), none, some (.int (Int32.ofInt (l3 + 1)))]) qd84_51 rfl rfl ?_
        refine ga_jp (t := 33) qd84_54 rfl ?_
        exact sq_weak (L := [some (.ref (z + 0)), some (.long (Int64.ofInt ((31 * l1) + r16))), none, some (.int (Int32.ofInt (l3 + 1)))]) ⟨rfl, rfl, rfl, trivial⟩ (ih _ _ h)
      · replace h := sw_elR g19 h
        cases h
    · replace h := sw_ifN hb13 h
      refine ga_cgeN (t := 57) qd84_35 e12 hb13 rfl ?_
      rw [← sw_sj h] at kk
      exact sq_weak (L := [some (.ref (z + 0)), some (.long (Int64.ofInt l1)), none, none]) ⟨rfl, rfl, trivial⟩ kk
def w84_122 : Nat → sw_T → Int → Int → Option (sw_T × Int)
  | 0, _, _, _ => none
  | m + 1, T, l1, l3 =>
    (sw_r2 l3 4).bind fun _u =>
    if l3 < 4 then
      (w81 T 10 l3).bind fun r50 =>
      sw_el r50 (fun r51 =>
        (sw_r1 r51.1).bind fun _u =>
        w84_122 m r51.2 ((31 * l1) + r51.1) (l3 + 1)
      ) (fun E52 =>
      none)
    else
      some ((T, l1))
theorem B84_122 {G : sp_G} {z n : Nat} (hn : 228 ≤ n) {K : sw_K} {res : sw_T × Int} {Q : sp_R → sp_M → Prop} (kk : sq_go G 84 148 [some (.ref (z + 0)), some (.long (Int64.ofInt res.2)), none, none] [] (sw_M z n sw_Ft res.1 K) Q) : ∀ (m : Nat) (T : sw_T) (l1 : Int) (l3 : Int), w84_122  m T l1 l3 = some res → sq_go G 84 122 [some (.ref (z + 0)), some (.long (Int64.ofInt l1)), none, some (.int (Int32.ofInt l3))] [] (sw_M z n sw_Ft T K) Q := by
  intro m
  induction m with
  | zero => intro T l1 l3 h; cases h
  | succ m ih =>
    intro T l1 l3 h
    rw [w84_122] at h
    refine go_l qd84_122 rfl ?_
    refine go_s qd84_123 rfl ?_
    obtain ⟨_u, e47, h⟩ := sw_bind h
    by_cases hb48 : l3 < 4
    · replace h := sw_ifY hb48 h
      refine ga_cgeY (t := 148) qd84_124 e47 hb48 rfl ?_
      refine ga_k64 (u := 31) qd84_127 qc84 ql5_225 rfl ?_
      refine go_l qd84_130 rfl ?_
      refine ga_lmul qd84_131 ?_
      refine go_l qd84_132 rfl ?_
      refine ga_k8 qd84_133 rfl ?_
      refine go_l qd84_135 rfl ?_
      obtain ⟨r50, e49, h⟩ := sw_bind h
      refine ga_kv (a := 0) (as := [.int (Int32.ofInt 10), .int (Int32.ofInt l3)]) (rest := [.long (Int64.ofInt (31 * l1))]) qd84_136 qk84_248 (sw_sl hn (by decide)) rfl rfl rfl (Nat.le_of_ble_eq_true rfl) (Nat.le_of_ble_eq_true rfl) rfl (A81 hn e49 (fun r51 g53 => ?_) (fun E52 g54 => ?_))
      · refine sw_bkv ?_
        replace h := sw_elL g53 h
        obtain ⟨_u, e55, h⟩ := sw_bind h
        refine ga_i2l qd84_139 e55 ?_
        refine ga_ladd qd84_140 ?_
        refine go_l (L' := [some (.ref (z + 0)), some (.long (Int64.ofInt ((31 * l1) + r51.1))), none, some (.int (Int32.ofInt l3))]) (st' := []) qd84_141 rfl ?_
        refine ga_ii (L' := [some (.ref (z + 0)), some (.long (Int64.ofInt ((31 * l1) + r51.1))), none, some (.int (Int32.ofInt (l3 + 1)))]) qd84_142 rfl rfl ?_
        refine ga_jp (t := 122) qd84_145 rfl ?_
        exact sq_weak (L := [some (.ref (z + 0)), some (.long (Int64.ofInt ((31 * l1) + r51.1))), none, some (.int (Int32.ofInt (l3 + 1)))]) ⟨rfl, rfl, rfl, trivial⟩ (ih _ _ _ h)
      · replace h := sw_elR g54 h
        cases h
    · replace h := sw_ifN hb48 h
      refine ga_cgeN (t := 148) qd84_124 e47 hb48 rfl ?_
      rw [← sw_sj h] at kk
      exact sq_weak (L := [some (.ref (z + 0)), some (.long (Int64.ofInt l1)), none, none]) ⟨rfl, rfl, trivial⟩ kk
def w84 (T : sw_T) : Option (Int × sw_T) :=
  (w84_6 T sw_N 3319 0).bind fun x10 =>
  (w84_33 T sw_N x10 0).bind fun x21 =>
  (w85 T x21).bind fun r24 =>
  (w86 T r24).bind fun r26 =>
  (w78 T).bind fun r28 =>
  (sw_r1 r28.1).bind fun _u =>
  (w79 r28.2).bind fun r31 =>
  (sw_r1 r31.1).bind fun _u =>
  (w80 r31.2 1).bind fun r34 =>
  sw_el r34 (fun r35 =>
    (sw_r1 r35.1).bind fun _u =>
    (w80 r35.2 9).bind fun r41 =>
    sw_el r41 (fun r42 =>
      (sw_r1 r42.1).bind fun _u =>
      (w84_122 sw_N r42.2 ((31 * ((31 * ((31 * ((31 * r26) + r28.1)) + r31.1)) + r35.1)) + r42.1) 0).bind fun x56 =>
      (w82 x56.1).bind fun r59 =>
      (w88 x56.1 r59).bind fun r61 =>
      (w83 x56.1).bind fun r63 =>
      (w89 x56.1 r63).bind fun r65 =>
      (sw_r1 r65).bind fun _u =>
      (sw_r1 (x56.1 0 5)).bind fun _u =>
      if (x56.1 0 5) = 0 then
        (sw_r1 0).bind fun _u =>
        (w87 x56.1 ((31 * ((31 * ((31 * x56.2) + r61)) + r65)) + 0)).bind fun r71 =>
        some ((r71, x56.1))
      else
        (sw_r1 1).bind fun _u =>
        (w87 x56.1 ((31 * ((31 * ((31 * x56.2) + r61)) + r65)) + 1)).bind fun r74 =>
        some ((r74, x56.1))
    ) (fun E43 =>
    none)
  ) (fun E36 =>
  none)
theorem A84 {G : sp_G} {z n : Nat} (hn : 228 ≤ n) {T : sw_T} {K : sw_K} {res : Int × sw_T} {Q : sp_R → sp_M → Prop} (h : w84 T = some res) (kk : Q (.inl (some (.long (Int64.ofInt res.1)))) (sw_M z n sw_Ft res.2 K)) : sq_go G 84 0 [some (.ref (z + 0)), none, none, none] [] (sw_M z n sw_Ft T K) Q := by
  unfold w84 at h
  refine ga_k64 (u := 3319) qd84_0 qc84 ql5_223 rfl ?_
  refine go_l (L' := [some (.ref (z + 0)), some (.long (Int64.ofInt 3319)), none, none]) (st' := []) qd84_3 rfl ?_
  refine go_s qd84_4 rfl ?_
  refine go_l (L' := [some (.ref (z + 0)), some (.long (Int64.ofInt 3319)), none, some (.int (Int32.ofInt 0))]) (st' := []) qd84_5 rfl ?_
  obtain ⟨x10, e11, h⟩ := sw_bind h
  refine sq_weak (L := [some (.ref (z + 0)), some (.long (Int64.ofInt 3319)), none, some (.int (Int32.ofInt 0))]) ⟨rfl, rfl, rfl, trivial⟩ (B84_6 hn (res := x10) ?_ _ _ _ e11)
  refine go_s qd84_31 rfl ?_
  refine go_l (L' := [some (.ref (z + 0)), some (.long (Int64.ofInt x10)), none, some (.int (Int32.ofInt 0))]) (st' := []) qd84_32 rfl ?_
  obtain ⟨x21, e22, h⟩ := sw_bind h
  refine sq_weak (L := [some (.ref (z + 0)), some (.long (Int64.ofInt x10)), none, some (.int (Int32.ofInt 0))]) ⟨rfl, rfl, rfl, trivial⟩ (B84_33 hn (res := x21) ?_ _ _ _ e22)
  refine go_l qd84_57 rfl ?_
  refine go_l qd84_58 rfl ?_
  obtain ⟨r24, e23, h⟩ := sw_bind h
  refine ga_kv (a := 0) (as := [.long (Int64.ofInt x21)]) (rest := []) qd84_59 qk84_232 (sw_sl hn (by decide)) rfl rfl rfl (Nat.le_of_ble_eq_true rfl) (Nat.le_of_ble_eq_true rfl) rfl (A85 hn e23 (sw_bkv ?_))
  refine go_l (L' := [some (.ref (z + 0)), some (.long (Int64.ofInt r24)), none, none]) (st' := []) qd84_62 rfl ?_
  refine go_l qd84_63 rfl ?_
  refine go_l qd84_64 rfl ?_
  obtain ⟨r26, e25, h⟩ := sw_bind h
  refine ga_kv (a := 0) (as := [.long (Int64.ofInt r24)]) (rest := []) qd84_65 qk84_236 (sw_sl hn (by decide)) rfl rfl rfl (Nat.le_of_ble_eq_true rfl) (Nat.le_of_ble_eq_true rfl) rfl (A86 hn e25 (sw_bkv ?_))
  refine go_l (L' := [some (.ref (z + 0)), some (.long (Int64.ofInt r26)), none, none]) (st' := []) qd84_68 rfl ?_
  refine ga_k64 (u := 31) qd84_69 qc84 ql5_225 rfl ?_
  refine go_l qd84_72 rfl ?_
  refine ga_lmul qd84_73 ?_
  refine go_l qd84_74 rfl ?_
  obtain ⟨r28, e27, h⟩ := sw_bind h
  refine ga_kv (a := 0) (as := []) (rest := [.long (Int64.ofInt (31 * r26))]) qd84_75 qk84_239 (sw_sl hn (by decide)) rfl rfl rfl (Nat.le_of_ble_eq_true rfl) (Nat.le_of_ble_eq_true rfl) rfl (A78 hn e27 (sw_bkv ?_))
  obtain ⟨_u, e29, h⟩ := sw_bind h
  refine ga_i2l qd84_78 e29 ?_
  refine ga_ladd qd84_79 ?_
  refine go_l (L' := [some (.ref (z + 0)), some (.long (Int64.ofInt ((31 * r26) + r28.1))), none, none]) (st' := []) qd84_80 rfl ?_
  refine ga_k64 (u := 31) qd84_81 qc84 ql5_225 rfl ?_
  refine go_l qd84_84 rfl ?_
  refine ga_lmul qd84_85 ?_
  refine go_l qd84_86 rfl ?_
  obtain ⟨r31, e30, h⟩ := sw_bind h
  refine ga_kv (a := 0) (as := []) (rest := [.long (Int64.ofInt (31 * ((31 * r26) + r28.1)))]) qd84_87 qk84_242 (sw_sl hn (by decide)) rfl rfl rfl (Nat.le_of_ble_eq_true rfl) (Nat.le_of_ble_eq_true rfl) rfl (A79 hn e30 (sw_bkv ?_))
  obtain ⟨_u, e32, h⟩ := sw_bind h
  refine ga_i2l qd84_90 e32 ?_
  refine ga_ladd qd84_91 ?_
  refine go_l (L' := [some (.ref (z + 0)), some (.long (Int64.ofInt ((31 * ((31 * r26) + r28.1)) + r31.1))), none, none]) (st' := []) qd84_92 rfl ?_
  refine ga_k64 (u := 31) qd84_93 qc84 ql5_225 rfl ?_
  refine go_l qd84_96 rfl ?_
  refine ga_lmul qd84_97 ?_
  refine go_l qd84_98 rfl ?_
  refine go_s qd84_99 rfl ?_
  obtain ⟨r34, e33, h⟩ := sw_bind h
  refine ga_kv (a := 0) (as := [.int (Int32.ofInt 1)]) (rest := [.long (Int64.ofInt (31 * ((31 * ((31 * r26) + r28.1)) + r31.1)))]) qd84_100 qk84_245 (sw_sl hn (by decide)) rfl rfl rfl (Nat.le_of_ble_eq_true rfl) (Nat.le_of_ble_eq_true rfl) rfl (A80 hn e33 (fun r35 g37 => ?_) (fun E36 g38 => ?_))
  · refine sw_bkv ?_
    replace h := sw_elL g37 h
    obtain ⟨_u, e39, h⟩ := sw_bind h
    refine ga_i2l qd84_103 e39 ?_
    refine ga_ladd qd84_104 ?_
    refine go_l (L' := [some (.ref (z + 0)), some (.long (Int64.ofInt ((31 * ((31 * ((31 * r26) + r28.1)) + r31.1)) + r35.1))), none, none]) (st' := []) qd84_105 rfl ?_
    refine ga_k64 (u := 31) qd84_106 qc84 ql5_225 rfl ?_
    refine go_l qd84_109 rfl ?_
    refine ga_lmul qd84_110 ?_
    refine go_l qd84_111 rfl ?_
    refine ga_k8 qd84_112 rfl ?_
    obtain ⟨r41, e40, h⟩ := sw_bind h
    refine ga_kv (a := 0) (as := [.int (Int32.ofInt 9)]) (rest := [.long (Int64.ofInt (31 * ((31 * ((31 * ((31 * r26) + r28.1)) + r31.1)) + r35.1)))]) qd84_114 qk84_245 (sw_sl hn (by decide)) rfl rfl rfl (Nat.le_of_ble_eq_true rfl) (Nat.le_of_ble_eq_true rfl) rfl (A80 hn e40 (fun r42 g44 => ?_) (fun E43 g45 => ?_))
    · refine sw_bkv ?_
      replace h := sw_elL g44 h
      obtain ⟨_u, e46, h⟩ := sw_bind h
      refine ga_i2l qd84_117 e46 ?_
      refine ga_ladd qd84_118 ?_
      refine go_l (L' := [some (.ref (z + 0)), some (.long (Int64.ofInt ((31 * ((31 * ((31 * ((31 * r26) + r28.1)) + r31.1)) + r35.1)) + r42.1))), none, none]) (st' := []) qd84_119 rfl ?_
      refine go_s qd84_120 rfl ?_
      refine go_l (L' := [some (.ref (z + 0)), some (.long (Int64.ofInt ((31 * ((31 * ((31 * ((31 * r26) + r28.1)) + r31.1)) + r35.1)) + r42.1))), none, some (.int (Int32.ofInt 0))]) (st' := []) qd84_121 rfl ?_
      obtain ⟨x56, e57, h⟩ := sw_bind h
      refine sq_weak (L := [some (.ref (z + 0)), some (.long (Int64.ofInt ((31 * ((31 * ((31 * ((31 * r26) + r28.1)) + r31.1)) + r35.1)) + r42.1))), none, some (.int (Int32.ofInt 0))]) ⟨rfl, rfl, rfl, trivial⟩ (B84_122 hn (res := x56) ?_ _ _ _ _ e57)
      refine ga_k64 (u := 31) qd84_148 qc84 ql5_225 rfl ?_
      refine go_l qd84_151 rfl ?_
      refine ga_lmul qd84_152 ?_
      refine go_l qd84_153 rfl ?_
      obtain ⟨r59, e58, h⟩ := sw_bind h
      refine ga_kv (a := 0) (as := []) (rest := [.long (Int64.ofInt (31 * x56.2))]) qd84_154 qk84_251 (sw_sl hn (by decide)) rfl rfl rfl (Nat.le_of_ble_eq_true rfl) (Nat.le_of_ble_eq_true rfl) rfl (A82 hn e58 (sw_bkv ?_))
      obtain ⟨r61, e60, h⟩ := sw_bind h
      refine ga_kS (as := [.double r59]) (rest := [.long (Int64.ofInt (31 * x56.2))]) qd84_157 qk84_255 rfl rfl (Nat.le_of_ble_eq_true rfl) (Nat.le_of_ble_eq_true rfl) rfl (A88 hn e60 (sw_bkv ?_))
      refine ga_ladd qd84_160 ?_
      refine go_l (L' := [some (.ref (z + 0)), some (.long (Int64.ofInt ((31 * x56.2) + r61))), none, none]) (st' := []) qd84_161 rfl ?_
      refine ga_k64 (u := 31) qd84_162 qc84 ql5_225 rfl ?_
      refine go_l qd84_165 rfl ?_
      refine ga_lmul qd84_166 ?_
      refine go_l qd84_167 rfl ?_
      obtain ⟨r63, e62, h⟩ := sw_bind h
      refine ga_kv (a := 0) (as := []) (rest := [.long (Int64.ofInt (31 * ((31 * x56.2) + r61)))]) qd84_168 qk84_259 (sw_sl hn (by decide)) rfl rfl rfl (Nat.le_of_ble_eq_true rfl) (Nat.le_of_ble_eq_true rfl) rfl (A83 hn e62 (sw_bkv ?_))
      obtain ⟨r65, e64, h⟩ := sw_bind h
      refine ga_kS (as := [.float r63]) (rest := [.long (Int64.ofInt (31 * ((31 * x56.2) + r61)))]) qd84_171 qk84_263 rfl rfl (Nat.le_of_ble_eq_true rfl) (Nat.le_of_ble_eq_true rfl) rfl (A89 hn e64 (sw_bkv ?_))
      obtain ⟨_u, e66, h⟩ := sw_bind h
      refine ga_i2l qd84_174 e66 ?_
      refine ga_ladd qd84_175 ?_
      refine go_l (L' := [some (.ref (z + 0)), some (.long (Int64.ofInt ((31 * ((31 * x56.2) + r61)) + r65))), none, none]) (st' := []) qd84_176 rfl ?_
      refine ga_k64 (u := 31) qd84_177 qc84 ql5_225 rfl ?_
      refine go_l qd84_180 rfl ?_
      refine ga_lmul qd84_181 ?_
      refine go_l qd84_182 rfl ?_
      refine ga_gf (v := .int (Int32.ofInt (x56.1 0 5))) qd84_183 qc84 qf5_138 (sw_sl hn (by decide)) rfl rfl ?_
      obtain ⟨_u, e67, h⟩ := sw_bind h
      by_cases hb68 : (x56.1 0 5) = 0
      · replace h := sw_ifY hb68 h
        refine ga_zeqY (t := 193) qd84_186 e67 hb68 rfl ?_
        refine go_s qd84_193 rfl ?_
        obtain ⟨_u, e69, h⟩ := sw_bind h
        refine ga_i2l qd84_194 e69 ?_
        refine ga_ladd qd84_195 ?_
        refine go_l (L' := [some (.ref (z + 0)), some (.long (Int64.ofInt ((31 * ((31 * ((31 * x56.2) + r61)) + r65)) + 0))), none, none]) (st' := []) qd84_196 rfl ?_
        refine go_l qd84_197 rfl ?_
        refine go_l qd84_198 rfl ?_
        obtain ⟨r71, e70, h⟩ := sw_bind h
        refine ga_kv (a := 0) (as := [.long (Int64.ofInt ((31 * ((31 * ((31 * x56.2) + r61)) + r65)) + 0))]) (rest := []) qd84_199 qk84_267 (sw_sl hn (by decide)) rfl rfl rfl (Nat.le_of_ble_eq_true rfl) (Nat.le_of_ble_eq_true rfl) rfl (A87 hn e70 (sw_bkv ?_))
        rw [← sw_sj h] at kk
        exact ga_rl qd84_202 qr84 kk
      · replace h := sw_ifN hb68 h
        refine ga_zeqN (t := 193) qd84_186 e67 hb68 rfl ?_
        refine go_s qd84_189 rfl ?_
        refine ga_jp (t := 194) qd84_190 rfl ?_
        obtain ⟨_u, e72, h⟩ := sw_bind h
        refine ga_i2l qd84_194 e72 ?_
        refine ga_ladd qd84_195 ?_
        refine go_l (L' := [some (.ref (z + 0)), some (.long (Int64.ofInt ((31 * ((31 * ((31 * x56.2) + r61)) + r65)) + 1))), none, none]) (st' := []) qd84_196 rfl ?_
        refine go_l qd84_197 rfl ?_
        refine go_l qd84_198 rfl ?_
        obtain ⟨r74, e73, h⟩ := sw_bind h
        refine ga_kv (a := 0) (as := [.long (Int64.ofInt ((31 * ((31 * ((31 * x56.2) + r61)) + r65)) + 1))]) (rest := []) qd84_199 qk84_267 (sw_sl hn (by decide)) rfl rfl rfl (Nat.le_of_ble_eq_true rfl) (Nat.le_of_ble_eq_true rfl) rfl (A87 hn e73 (sw_bkv ?_))
        rw [← sw_sj h] at kk
        exact ga_rl qd84_202 qr84 kk
    · replace h := sw_elR g45 h
      cases h
  · replace h := sw_elR g38 h
    cases h
theorem qf6_28 : (sp_fd sp_flT 6 28).or (sp_fd sp_fnT 6 28) = some (6, 0) := by decide +kernel
theorem qc95 : sq_c 95 = 6 := by decide +kernel
theorem qr95 : sq_ret 95 = some .int := by decide +kernel
-- 95: SewingPilesModel.thrown()I
def w95 (T : sw_T) : Option (Int) :=
  some ((T 221 0))
theorem A95 {G : sp_G} {z n : Nat} (hn : 228 ≤ n) {T : sw_T} {K : sw_K} {res : Int} {Q : sp_R → sp_M → Prop} (h : w95 T = some res) (kk : Q (.inl (some (.int (Int32.ofInt res)))) (sw_M z n sw_Ft T K)) : sq_go G 95 0 [some (.ref (z + 221))] [] (sw_M z n sw_Ft T K) Q := by
  unfold w95 at h
  refine go_l qd95_0 rfl ?_
  refine ga_gf (v := .int (Int32.ofInt (T 221 0))) qd95_1 qc95 qf6_28 (sw_sl hn (by decide)) rfl rfl ?_
  rw [← sw_sj h] at kk
  exact ga_ri qd95_4 qr95 kk
theorem qr96 : sq_ret 96 = some .boolean := by decide +kernel
-- 96: SewingPilesModel.in(III)Z
def w96 (T : sw_T) (p0 : Int) (p1 : Int) (p2 : Int) : Option (Int) :=
  (sw_r2 p0 p1).bind fun _u =>
  if p0 < p1 then
    some (0)
  else
    (sw_r2 p0 p2).bind fun _u =>
    if p2 < p0 then
      some (0)
    else
      some (1)
theorem A96 {G : sp_G} {z n : Nat} (hn : 228 ≤ n) {T : sw_T} {K : sw_K} {p0 : Int} {p1 : Int} {p2 : Int} {res : Int} {Q : sp_R → sp_M → Prop} (h : w96 T p0 p1 p2 = some res) (kk : Q (.inl (some (.int (Int32.ofInt res)))) (sw_M z n sw_Ft T K)) : sq_go G 96 0 [some (.int (Int32.ofInt p0)), some (.int (Int32.ofInt p1)), some (.int (Int32.ofInt p2))] [] (sw_M z n sw_Ft T K) Q := by
  unfold w96 at h
  refine go_l qd96_0 rfl ?_
  refine go_l qd96_1 rfl ?_
  obtain ⟨_u, e1, h⟩ := sw_bind h
  by_cases hb2 : p0 < p1
  · replace h := sw_ifY hb2 h
    refine ga_cltY (t := 14) qd96_2 e1 hb2 rfl ?_
    refine go_s qd96_14 rfl ?_
    rw [← sw_sj h] at kk
    exact ga_rb (u := ()) qd96_15 qr96 (by decide) kk
  · replace h := sw_ifN hb2 h
    refine ga_cltN (t := 14) qd96_2 e1 hb2 rfl ?_
    refine go_l qd96_5 rfl ?_
    refine go_l qd96_6 rfl ?_
    obtain ⟨_u, e3, h⟩ := sw_bind h
    by_cases hb4 : p2 < p0
    · replace h := sw_ifY hb4 h
      refine ga_cgtY (t := 14) qd96_7 e3 hb4 rfl ?_
      refine go_s qd96_14 rfl ?_
      rw [← sw_sj h] at kk
      exact ga_rb (u := ()) qd96_15 qr96 (by decide) kk
    · replace h := sw_ifN hb4 h
      refine ga_cgtN (t := 14) qd96_7 e3 hb4 rfl ?_
      refine go_s qd96_10 rfl ?_
      refine ga_jp (t := 15) qd96_11 rfl ?_
      rw [← sw_sj h] at kk
      exact ga_rb (u := ()) qd96_15 qr96 (by decide) kk
theorem qg6_28 : sp_fd sp_flT 6 28 = some (6, 0) := by decide +kernel
theorem qc97 : sq_c 97 = 6 := by decide +kernel
theorem qr97 : sq_ret 97 = some .int := by decide +kernel
-- 97: SewingPilesModel.fails(I)I
def w97 (T : sw_T) (p1 : Int) : Option (Int × sw_T) :=
  (sw_pf T 221 0 p1).bind fun T1 =>
  some ((0, T1))
theorem A97 {G : sp_G} {z n : Nat} (hn : 228 ≤ n) {T : sw_T} {K : sw_K} {p1 : Int} {res : Int × sw_T} {Q : sp_R → sp_M → Prop} (h : w97 T p1 = some res) (kk : Q (.inl (some (.int (Int32.ofInt res.1)))) (sw_M z n sw_Ft res.2 K)) : sq_go G 97 0 [some (.ref (z + 221)), some (.int (Int32.ofInt p1))] [] (sw_M z n sw_Ft T K) Q := by
  unfold w97 at h
  refine go_l qd97_0 rfl ?_
  refine go_l qd97_1 rfl ?_
  obtain ⟨T1, e2, h⟩ := sw_bind h
  refine ga_pfi qd97_2 qc97 qg6_28 (sw_sl hn (by decide)) rfl qi6_0 e2 ?_
  refine go_s qd97_5 rfl ?_
  rw [← sw_sj h] at kk
  exact ga_ri qd97_6 qr97 kk
theorem qf6_7 : (sp_fd sp_flT 6 7).or (sp_fd sp_fnT 6 7) = some (6, 1) := by decide +kernel
theorem qc98 : sq_c 98 = 6 := by decide +kernel
theorem qr98 : sq_ret 98 = some .int := by decide +kernel
-- 98: SewingPilesModel.of(II)I
def w98 (T : sw_T) (p1 : Int) (p2 : Int) : Option (Int) :=
  (sw_ld T 222 543 ((8 + (9 * p1)) + p2)).bind fun v2 =>
  some (v2)
theorem A98 {G : sp_G} {z n : Nat} (hn : 228 ≤ n) {T : sw_T} {K : sw_K} {p1 : Int} {p2 : Int} {res : Int} {Q : sp_R → sp_M → Prop} (h : w98 T p1 p2 = some res) (kk : Q (.inl (some (.int (Int32.ofInt res)))) (sw_M z n sw_Ft T K)) : sq_go G 98 0 [some (.ref (z + 221)), some (.int (Int32.ofInt p1)), some (.int (Int32.ofInt p2))] [] (sw_M z n sw_Ft T K) Q := by
  unfold w98 at h
  refine go_l qd98_0 rfl ?_
  refine ga_gf (v := .ref (z + 222)) qd98_1 qc98 qf6_7 (sw_sl hn (by decide)) rfl rfl ?_
  refine ga_k8 qd98_4 rfl ?_
  refine ga_k8 qd98_6 rfl ?_
  refine go_l qd98_8 rfl ?_
  refine ga_imul qd98_9 ?_
  refine ga_iadd qd98_10 ?_
  refine go_l qd98_11 rfl ?_
  refine ga_iadd qd98_12 ?_
  obtain ⟨v2, e1, h⟩ := sw_bind h
  refine ga_iald qd98_13 (sw_sl hn (by decide)) e1 ?_
  rw [← sw_sj h] at kk
  exact ga_ri qd98_14 qr98 kk
theorem qc99 : sq_c 99 = 6 := by decide +kernel
theorem qr99 : sq_ret 99 = none := by decide +kernel
-- 99: SewingPilesModel.lays(III)V
def w99 (T : sw_T) (p1 : Int) (p2 : Int) (p3 : Int) : Option (sw_T) :=
  (sw_st T 222 543 ((8 + (9 * p1)) + p2) p3).bind fun T2 =>
  some (T2)
theorem A99 {G : sp_G} {z n : Nat} (hn : 228 ≤ n) {T : sw_T} {K : sw_K} {p1 : Int} {p2 : Int} {p3 : Int} {res : sw_T} {Q : sp_R → sp_M → Prop} (h : w99 T p1 p2 p3 = some res) (kk : Q (.inl none) (sw_M z n sw_Ft res K)) : sq_go G 99 0 [some (.ref (z + 221)), some (.int (Int32.ofInt p1)), some (.int (Int32.ofInt p2)), some (.int (Int32.ofInt p3))] [] (sw_M z n sw_Ft T K) Q := by
  unfold w99 at h
  refine go_l qd99_0 rfl ?_
  refine ga_gf (v := .ref (z + 222)) qd99_1 qc99 qf6_7 (sw_sl hn (by decide)) rfl rfl ?_
  refine ga_k8 qd99_4 rfl ?_
  refine ga_k8 qd99_6 rfl ?_
  refine go_l qd99_8 rfl ?_
  refine ga_imul qd99_9 ?_
  refine ga_iadd qd99_10 ?_
  refine go_l qd99_11 rfl ?_
  refine ga_iadd qd99_12 ?_
  refine go_l qd99_13 rfl ?_
  obtain ⟨T2, e1, h⟩ := sw_bind h
  refine ga_iast qd99_14 (sw_sl hn (by decide)) e1 ?_
  rw [← sw_sj h] at kk
  exact ga_rv qd99_15 qr99 kk
theorem qc100 : sq_c 100 = 6 := by decide +kernel
theorem qr100 : sq_ret 100 = none := by decide +kernel
-- 100: SewingPilesModel.grows(II)V
def w100 (T : sw_T) (p1 : Int) (p2 : Int) : Option (sw_T) :=
  (sw_ld T 222 543 ((8 + (9 * p1)) + p2)).bind fun v2 =>
  (sw_st T 222 543 ((8 + (9 * p1)) + p2) (v2 + 1)).bind fun T4 =>
  some (T4)
theorem A100 {G : sp_G} {z n : Nat} (hn : 228 ≤ n) {T : sw_T} {K : sw_K} {p1 : Int} {p2 : Int} {res : sw_T} {Q : sp_R → sp_M → Prop} (h : w100 T p1 p2 = some res) (kk : Q (.inl none) (sw_M z n sw_Ft res K)) : sq_go G 100 0 [some (.ref (z + 221)), some (.int (Int32.ofInt p1)), some (.int (Int32.ofInt p2))] [] (sw_M z n sw_Ft T K) Q := by
  unfold w100 at h
  refine go_l qd100_0 rfl ?_
  refine ga_gf (v := .ref (z + 222)) qd100_1 qc100 qf6_7 (sw_sl hn (by decide)) rfl rfl ?_
  refine ga_k8 qd100_4 rfl ?_
  refine ga_k8 qd100_6 rfl ?_
  refine go_l qd100_8 rfl ?_
  refine ga_imul qd100_9 ?_
  refine ga_iadd qd100_10 ?_
  refine go_l qd100_11 rfl ?_
  refine ga_iadd qd100_12 ?_
  refine go_s qd100_13 rfl ?_
  obtain ⟨v2, e1, h⟩ := sw_bind h
  refine ga_iald qd100_14 (sw_sl hn (by decide)) e1 ?_
  refine go_s qd100_15 rfl ?_
  refine ga_iadd qd100_16 ?_
  obtain ⟨T4, e3, h⟩ := sw_bind h
  refine ga_iast qd100_17 (sw_sl hn (by decide)) e3 ?_
  rw [← sw_sj h] at kk
  exact ga_rv qd100_18 qr100 kk
theorem qc101 : sq_c 101 = 6 := by decide +kernel
theorem qr101 : sq_ret 101 = some .int := by decide +kernel
-- 101: SewingPilesModel.onPile(II)I
def w101 (T : sw_T) (p1 : Int) (p2 : Int) : Option (Int) :=
  (sw_ld T 222 543 ((71 + (16 * p1)) + p2)).bind fun v2 =>
  some (v2)
theorem A101 {G : sp_G} {z n : Nat} (hn : 228 ≤ n) {T : sw_T} {K : sw_K} {p1 : Int} {p2 : Int} {res : Int} {Q : sp_R → sp_M → Prop} (h : w101 T p1 p2 = some res) (kk : Q (.inl (some (.int (Int32.ofInt res)))) (sw_M z n sw_Ft T K)) : sq_go G 101 0 [some (.ref (z + 221)), some (.int (Int32.ofInt p1)), some (.int (Int32.ofInt p2))] [] (sw_M z n sw_Ft T K) Q := by
  unfold w101 at h
  refine go_l qd101_0 rfl ?_
  refine ga_gf (v := .ref (z + 222)) qd101_1 qc101 qf6_7 (sw_sl hn (by decide)) rfl rfl ?_
  refine ga_k8 qd101_4 rfl ?_
  refine ga_k8 qd101_6 rfl ?_
  refine go_l qd101_8 rfl ?_
  refine ga_imul qd101_9 ?_
  refine ga_iadd qd101_10 ?_
  refine go_l qd101_11 rfl ?_
  refine ga_iadd qd101_12 ?_
  obtain ⟨v2, e1, h⟩ := sw_bind h
  refine ga_iald qd101_13 (sw_sl hn (by decide)) e1 ?_
  rw [← sw_sj h] at kk
  exact ga_ri qd101_14 qr101 kk
theorem qc102 : sq_c 102 = 6 := by decide +kernel
theorem qr102 : sq_ret 102 = some .int := by decide +kernel
-- 102: SewingPilesModel.ofShirt(II)I
def w102 (T : sw_T) (p1 : Int) (p2 : Int) : Option (Int) :=
  (sw_ld T 222 543 ((183 + (3 * p1)) + p2)).bind fun v2 =>
  some (v2)
theorem A102 {G : sp_G} {z n : Nat} (hn : 228 ≤ n) {T : sw_T} {K : sw_K} {p1 : Int} {p2 : Int} {res : Int} {Q : sp_R → sp_M → Prop} (h : w102 T p1 p2 = some res) (kk : Q (.inl (some (.int (Int32.ofInt res)))) (sw_M z n sw_Ft T K)) : sq_go G 102 0 [some (.ref (z + 221)), some (.int (Int32.ofInt p1)), some (.int (Int32.ofInt p2))] [] (sw_M z n sw_Ft T K) Q := by
  unfold w102 at h
  refine go_l qd102_0 rfl ?_
  refine ga_gf (v := .ref (z + 222)) qd102_1 qc102 qf6_7 (sw_sl hn (by decide)) rfl rfl ?_
  refine ga_k16 qd102_4 rfl ?_
  refine go_s qd102_7 rfl ?_
  refine go_l qd102_8 rfl ?_
  refine ga_imul qd102_9 ?_
  refine ga_iadd qd102_10 ?_
  refine go_l qd102_11 rfl ?_
  refine ga_iadd qd102_12 ?_
  obtain ⟨v2, e1, h⟩ := sw_bind h
  refine ga_iald qd102_13 (sw_sl hn (by decide)) e1 ?_
  rw [← sw_sj h] at kk
  exact ga_ri qd102_14 qr102 kk
theorem qc103 : sq_c 103 = 6 := by decide +kernel
theorem qr103 : sq_ret 103 = none := by decide +kernel
-- 103: SewingPilesModel.layShirt(III)V
def w103 (T : sw_T) (p1 : Int) (p2 : Int) (p3 : Int) : Option (sw_T) :=
  (sw_st T 222 543 ((183 + (3 * p1)) + p2) p3).bind fun T2 =>
  some (T2)
theorem A103 {G : sp_G} {z n : Nat} (hn : 228 ≤ n) {T : sw_T} {K : sw_K} {p1 : Int} {p2 : Int} {p3 : Int} {res : sw_T} {Q : sp_R → sp_M → Prop} (h : w103 T p1 p2 p3 = some res) (kk : Q (.inl none) (sw_M z n sw_Ft res K)) : sq_go G 103 0 [some (.ref (z + 221)), some (.int (Int32.ofInt p1)), some (.int (Int32.ofInt p2)), some (.int (Int32.ofInt p3))] [] (sw_M z n sw_Ft T K) Q := by
  unfold w103 at h
  refine go_l qd103_0 rfl ?_
  refine ga_gf (v := .ref (z + 222)) qd103_1 qc103 qf6_7 (sw_sl hn (by decide)) rfl rfl ?_
  refine ga_k16 qd103_4 rfl ?_
  refine go_s qd103_7 rfl ?_
  refine go_l qd103_8 rfl ?_
  refine ga_imul qd103_9 ?_
  refine ga_iadd qd103_10 ?_
  refine go_l qd103_11 rfl ?_
  refine ga_iadd qd103_12 ?_
  refine go_l qd103_13 rfl ?_
  obtain ⟨T2, e1, h⟩ := sw_bind h
  refine ga_iast qd103_14 (sw_sl hn (by decide)) e1 ?_
  rw [← sw_sj h] at kk
  exact ga_rv qd103_15 qr103 kk
theorem qc104 : sq_c 104 = 6 := by decide +kernel
theorem qk104_36 : sw_ck 104 36 96 1 3 6 3 = true := by decide +kernel
theorem qr104 : sq_ret 104 = some .boolean := by decide +kernel
-- 104: SewingPilesModel.isWho(I)Z
def w104 (T : sw_T) (p1 : Int) : Option (Int) :=
  (sw_ld T 222 543 4).bind fun v2 =>
  (w96 T p1 0 (v2 - 1)).bind fun r4 =>
  (sw_b1 r4).bind fun _u =>
  some (r4)
theorem A104 {G : sp_G} {z n : Nat} (hn : 228 ≤ n) {T : sw_T} {K : sw_K} {p1 : Int} {res : Int} {Q : sp_R → sp_M → Prop} (h : w104 T p1 = some res) (kk : Q (.inl (some (.int (Int32.ofInt res)))) (sw_M z n sw_Ft T K)) : sq_go G 104 0 [some (.ref (z + 221)), some (.int (Int32.ofInt p1))] [] (sw_M z n sw_Ft T K) Q := by
  unfold w104 at h
  refine go_l qd104_0 rfl ?_
  refine go_s qd104_1 rfl ?_
  refine go_l qd104_2 rfl ?_
  refine ga_gf (v := .ref (z + 222)) qd104_3 qc104 qf6_7 (sw_sl hn (by decide)) rfl rfl ?_
  refine go_s qd104_6 rfl ?_
  obtain ⟨v2, e1, h⟩ := sw_bind h
  refine ga_iald qd104_7 (sw_sl hn (by decide)) e1 ?_
  refine go_s qd104_8 rfl ?_
  refine ga_isub qd104_9 ?_
  obtain ⟨r4, e3, h⟩ := sw_bind h
  refine ga_kS (as := [.int (Int32.ofInt p1), .int (Int32.ofInt 0), .int (Int32.ofInt (v2 - 1))]) (rest := []) qd104_10 qk104_36 rfl rfl (Nat.le_of_ble_eq_true rfl) (Nat.le_of_ble_eq_true rfl) rfl (A96 hn e3 (sw_bkv ?_))
  obtain ⟨_u, e5, h⟩ := sw_bind h
  rw [← sw_sj h] at kk
  exact ga_rb qd104_13 qr104 e5 kk
theorem qf6_40 : (sp_fd sp_flT 6 40).or (sp_fd sp_fnT 6 40) = some (6, 4) := by decide +kernel
theorem qc105 : sq_c 105 = 6 := by decide +kernel
theorem qf6_16 : (sp_fd sp_flT 6 16).or (sp_fd sp_fnT 6 16) = some (6, 3) := by decide +kernel
theorem qg6_40 : sp_fd sp_flT 6 40 = some (6, 4) := by decide +kernel
theorem qr105 : sq_ret 105 = none := by decide +kernel
-- 105: SewingPilesModel.saves()V
def w105_11 : Nat → sw_T → Int → Option (sw_T)
  | 0, _, _ => none
  | m + 1, T, l1 =>
    (sw_r2 l1 2715).bind fun _u =>
    if l1 < 2715 then
      (sw_ld T 224 3258 (l1 + 543)).bind fun v6 =>
      (sw_st T 224 3258 l1 v6).bind fun T8 =>
      w105_11 m T8 (l1 + 1)
    else
      some (T)
theorem B105_11 {G : sp_G} {z n : Nat} (hn : 228 ≤ n) {K : sw_K} {res : sw_T} {Q : sp_R → sp_M → Prop} (kk : sq_go G 105 40 [some (.ref (z + 221)), none] [] (sw_M z n sw_Ft res K) Q) : ∀ (m : Nat) (T : sw_T) (l1 : Int), w105_11  m T l1 = some res → sq_go G 105 11 [some (.ref (z + 221)), some (.int (Int32.ofInt l1))] [] (sw_M z n sw_Ft T K) Q := by
  intro m
  induction m with
  | zero => intro T l1 h; cases h
  | succ m ih =>
    intro T l1 h
    rw [w105_11] at h
    refine go_l qd105_11 rfl ?_
    refine ga_k16 qd105_12 rfl ?_
    obtain ⟨_u, e3, h⟩ := sw_bind h
    by_cases hb4 : l1 < 2715
    · replace h := sw_ifY hb4 h
      refine ga_cgeY (t := 40) qd105_15 e3 hb4 rfl ?_
      refine go_l qd105_18 rfl ?_
      refine ga_gf (v := .ref (z + 224)) qd105_19 qc105 qf6_16 (sw_sl hn (by decide)) rfl rfl ?_
      refine go_l qd105_22 rfl ?_
      refine go_l qd105_23 rfl ?_
      refine ga_gf (v := .ref (z + 224)) qd105_24 qc105 qf6_16 (sw_sl hn (by decide)) rfl rfl ?_
      refine go_l qd105_27 rfl ?_
      refine ga_k16 qd105_28 rfl ?_
      refine ga_iadd qd105_31 ?_
      obtain ⟨v6, e5, h⟩ := sw_bind h
      refine ga_iald qd105_32 (sw_sl hn (by decide)) e5 ?_
      obtain ⟨T8, e7, h⟩ := sw_bind h
      refine ga_iast qd105_33 (sw_sl hn (by decide)) e7 ?_
      refine ga_ii (L' := [some (.ref (z + 221)), some (.int (Int32.ofInt (l1 + 1)))]) qd105_34 rfl rfl ?_
      refine ga_jp (t := 11) qd105_37 rfl ?_
      exact sq_weak (L := [some (.ref (z + 221)), some (.int (Int32.ofInt (l1 + 1)))]) ⟨rfl, rfl, trivial⟩ (ih _ _ h)
    · replace h := sw_ifN hb4 h
      refine ga_cgeN (t := 40) qd105_15 e3 hb4 rfl ?_
      rw [← sw_sj h] at kk
      exact sq_weak (L := [some (.ref (z + 221)), none]) ⟨rfl, trivial⟩ kk
def w105_52 : Nat → sw_T → Int → Option (sw_T)
  | 0, _, _ => none
  | m + 1, T, l1 =>
    (sw_r2 l1 543).bind fun _u =>
    if l1 < 543 then
      (sw_ld T 222 543 l1).bind fun v16 =>
      (sw_st T 224 3258 ((543 * (T 221 4)) + l1) v16).bind fun T18 =>
      w105_52 m T18 (l1 + 1)
    else
      some (T)
theorem B105_52 {G : sp_G} {z n : Nat} (hn : 228 ≤ n) {K : sw_K} {res : sw_T} {Q : sp_R → sp_M → Prop} (kk : sq_go G 105 86 [some (.ref (z + 221)), none] [] (sw_M z n sw_Ft res K) Q) : ∀ (m : Nat) (T : sw_T) (l1 : Int), w105_52  m T l1 = some res → sq_go G 105 52 [some (.ref (z + 221)), some (.int (Int32.ofInt l1))] [] (sw_M z n sw_Ft T K) Q := by
  intro m
  induction m with
  | zero => intro T l1 h; cases h
  | succ m ih =>
    intro T l1 h
    rw [w105_52] at h
    refine go_l qd105_52 rfl ?_
    refine ga_k16 qd105_53 rfl ?_
    obtain ⟨_u, e13, h⟩ := sw_bind h
    by_cases hb14 : l1 < 543
    · replace h := sw_ifY hb14 h
      refine ga_cgeY (t := 86) qd105_56 e13 hb14 rfl ?_
      refine go_l qd105_59 rfl ?_
      refine ga_gf (v := .ref (z + 224)) qd105_60 qc105 qf6_16 (sw_sl hn (by decide)) rfl rfl ?_
      refine ga_k16 qd105_63 rfl ?_
      refine go_l qd105_66 rfl ?_
      refine ga_gf (v := .int (Int32.ofInt (T 221 4))) qd105_67 qc105 qf6_40 (sw_sl hn (by decide)) rfl rfl ?_
      refine ga_imul qd105_70 ?_
      refine go_l qd105_71 rfl ?_
      refine ga_iadd qd105_72 ?_
      refine go_l qd105_73 rfl ?_
      refine ga_gf (v := .ref (z + 222)) qd105_74 qc105 qf6_7 (sw_sl hn (by decide)) rfl rfl ?_
      refine go_l qd105_77 rfl ?_
      obtain ⟨v16, e15, h⟩ := sw_bind h
      refine ga_iald qd105_78 (sw_sl hn (by decide)) e15 ?_
      obtain ⟨T18, e17, h⟩ := sw_bind h
      refine ga_iast qd105_79 (sw_sl hn (by decide)) e17 ?_
      refine ga_ii (L' := [some (.ref (z + 221)), some (.int (Int32.ofInt (l1 + 1)))]) qd105_80 rfl rfl ?_
      refine ga_jp (t := 52) qd105_83 rfl ?_
      exact sq_weak (L := [some (.ref (z + 221)), some (.int (Int32.ofInt (l1 + 1)))]) ⟨rfl, rfl, trivial⟩ (ih _ _ h)
    · replace h := sw_ifN hb14 h
      refine ga_cgeN (t := 86) qd105_56 e13 hb14 rfl ?_
      rw [← sw_sj h] at kk
      exact sq_weak (L := [some (.ref (z + 221)), none]) ⟨rfl, trivial⟩ kk
def w105_50 (T : sw_T) : Option (sw_T) :=
  (w105_52 sw_N T 0).bind fun x19 =>
  (sw_pf x19 221 4 ((x19 221 4) + 1)).bind fun T21 =>
  some (T21)
theorem B105_50 {G : sp_G} {z n : Nat} (hn : 228 ≤ n) {T : sw_T} {K : sw_K} {res : sw_T} {Q : sp_R → sp_M → Prop} (h : w105_50 T = some res) (kk : Q (.inl none) (sw_M z n sw_Ft res K)) : sq_go G 105 50 [some (.ref (z + 221)), none] [] (sw_M z n sw_Ft T K) Q := by
  unfold w105_50 at h
  refine go_s qd105_50 rfl ?_
  refine go_l (L' := [some (.ref (z + 221)), some (.int (Int32.ofInt 0))]) (st' := []) qd105_51 rfl ?_
  obtain ⟨x19, e20, h⟩ := sw_bind h
  refine sq_weak (L := [some (.ref (z + 221)), some (.int (Int32.ofInt 0))]) ⟨rfl, rfl, trivial⟩ (B105_52 hn (res := x19) ?_ _ _ _ e20)
  refine go_l qd105_86 rfl ?_
  refine go_s qd105_87 rfl ?_
  refine ga_gf (v := .int (Int32.ofInt (x19 221 4))) qd105_88 qc105 qf6_40 (sw_sl hn (by decide)) rfl rfl ?_
  refine go_s qd105_91 rfl ?_
  refine ga_iadd qd105_92 ?_
  obtain ⟨T21, e22, h⟩ := sw_bind h
  refine ga_pfi qd105_93 qc105 qg6_40 (sw_sl hn (by decide)) rfl qi6_4 e22 ?_
  rw [← sw_sj h] at kk
  exact ga_rv qd105_96 qr105 kk
def w105 (T : sw_T) : Option (sw_T) :=
  (sw_r2 (T 221 4) 6).bind fun _u =>
  if (T 221 4) = 6 then
    (w105_11 sw_N T 0).bind fun x9 =>
    (sw_pf x9 221 4 ((x9 221 4) - 1)).bind fun T11 =>
    w105_50 T11
  else
    w105_50 T
theorem A105 {G : sp_G} {z n : Nat} (hn : 228 ≤ n) {T : sw_T} {K : sw_K} {res : sw_T} {Q : sp_R → sp_M → Prop} (h : w105 T = some res) (kk : Q (.inl none) (sw_M z n sw_Ft res K)) : sq_go G 105 0 [some (.ref (z + 221)), none] [] (sw_M z n sw_Ft T K) Q := by
  unfold w105 at h
  refine go_l qd105_0 rfl ?_
  refine ga_gf (v := .int (Int32.ofInt (T 221 4))) qd105_1 qc105 qf6_40 (sw_sl hn (by decide)) rfl rfl ?_
  refine ga_k8 qd105_4 rfl ?_
  obtain ⟨_u, e1, h⟩ := sw_bind h
  by_cases hb2 : (T 221 4) = 6
  · replace h := sw_ifY hb2 h
    refine ga_cneY (t := 50) qd105_6 e1 hb2 rfl ?_
    refine go_s qd105_9 rfl ?_
    refine go_l (L' := [some (.ref (z + 221)), some (.int (Int32.ofInt 0))]) (st' := []) qd105_10 rfl ?_
    obtain ⟨x9, e10, h⟩ := sw_bind h
    refine sq_weak (L := [some (.ref (z + 221)), some (.int (Int32.ofInt 0))]) ⟨rfl, rfl, trivial⟩ (B105_11 hn (res := x9) ?_ _ _ _ e10)
    refine go_l qd105_40 rfl ?_
    refine go_s qd105_41 rfl ?_
    refine ga_gf (v := .int (Int32.ofInt (x9 221 4))) qd105_42 qc105 qf6_40 (sw_sl hn (by decide)) rfl rfl ?_
    refine go_s qd105_45 rfl ?_
    refine ga_isub qd105_46 ?_
    obtain ⟨T11, e12, h⟩ := sw_bind h
    refine ga_pfi qd105_47 qc105 qg6_40 (sw_sl hn (by decide)) rfl qi6_4 e12 ?_
    exact sq_weak (L := [some (.ref (z + 221)), none]) ⟨rfl, trivial⟩ (B105_50 hn h kk)
  · replace h := sw_ifN hb2 h
    refine ga_cneN (t := 50) qd105_6 e1 hb2 rfl ?_
    exact sq_weak (L := [some (.ref (z + 221)), none]) ⟨rfl, trivial⟩ (B105_50 hn h kk)
