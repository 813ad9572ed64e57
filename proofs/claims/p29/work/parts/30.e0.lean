/-! ===== the methods as functions over tables ===== -/
theorem qf0_11 : (sp_fd sp_flT 0 11).or (sp_fd sp_fnT 0 11) = some (0, 0) := by decide +kernel
theorem qc3 : sq_c 3 = 0 := by decide +kernel
theorem qg0_18 : sp_fd sp_flT 0 18 = some (0, 1) := by decide +kernel
theorem qr3 : sq_ret 3 = none := by decide +kernel
-- 3: SewingPiles$History.dropOldest()V
def w3_9 (q2 : Nat) : Nat → sw_T → Int → Option (sw_T)
  | 0, _, _ => none
  | m + 1, T, l2 =>
    (sw_r2 l2 6).bind fun _u =>
    if l2 < 6 then
      (sw_lr T 74 6 l2).bind fun q6 =>
      (sw_sr T 74 6 (l2 - 1) q6).bind fun T8 =>
      w3_9 q2 m T8 (l2 + 1)
    else
      some (T)
theorem B3_9 {G : sp_G} {z n : Nat} (hn : 221 ≤ n) {q2 : Nat} (hq2 : q2 ∈ sw_rm) {K : sw_K} {res : sw_T} {Q : sp_R → sp_M → Prop} (kk : sq_go G 3 35 [some (.ref (z + 73)), some (.ref (z + q2)), none] [] (sw_M z n sw_Ft res K) Q) : ∀ (m : Nat) (T : sw_T) (l2 : Int), w3_9 q2 m T l2 = some res → sq_go G 3 9 [some (.ref (z + 73)), some (.ref (z + q2)), some (.int (Int32.ofInt l2))] [] (sw_M z n sw_Ft T K) Q := by
  intro m
  induction m with
  | zero => intro T l2 h; cases h
  | succ m ih =>
    intro T l2 h
    rw [w3_9] at h
    refine go_l qd3_9 rfl ?_
    refine ga_k8 qd3_10 rfl ?_
    obtain ⟨_u, e3, h⟩ := sw_bind h
    by_cases hb4 : l2 < 6
    · replace h := sw_ifY hb4 h
      refine ga_cgeY (t := 35) qd3_12 e3 hb4 rfl ?_
      refine go_l qd3_15 rfl ?_
      refine ga_gf (v := .ref (z + 74)) qd3_16 qc3 qf0_11 (sw_sl hn (by decide)) rfl rfl ?_
      refine go_l qd3_19 rfl ?_
      refine go_s qd3_20 rfl ?_
      refine ga_isub qd3_21 ?_
      refine go_l qd3_22 rfl ?_
      refine ga_gf (v := .ref (z + 74)) qd3_23 qc3 qf0_11 (sw_sl hn (by decide)) rfl rfl ?_
      refine go_l qd3_26 rfl ?_
      obtain ⟨q6, e5, h⟩ := sw_bind h
      refine ga_lrm qd3_27 (sw_sl hn (by decide)) e5 (fun hq6 => ?_)
      obtain ⟨T8, e7, h⟩ := sw_bind h
      refine ga_srm qd3_28 (sw_sl hn (by decide)) (sw_rb hn hq6) (sw_rn hq6) e7 ?_
      refine ga_ii (L' := [some (.ref (z + 73)), some (.ref (z + q2)), some (.int (Int32.ofInt (l2 + 1)))]) qd3_29 rfl rfl ?_
      refine ga_jp (t := 9) qd3_32 rfl ?_
      exact sq_weak (L := [some (.ref (z + 73)), some (.ref (z + q2)), some (.int (Int32.ofInt (l2 + 1)))]) ⟨rfl, rfl, rfl, trivial⟩ (ih _ _ h)
    · replace h := sw_ifN hb4 h
      refine ga_cgeN (t := 35) qd3_12 e3 hb4 rfl ?_
      rw [← sw_sj h] at kk
      exact sq_weak (L := [some (.ref (z + 73)), some (.ref (z + q2)), none]) ⟨rfl, rfl, trivial⟩ kk
def w3 (T : sw_T) : Option (sw_T) :=
  (sw_lr T 74 6 0).bind fun q2 =>
  (w3_9 q2 sw_N T 1).bind fun x9 =>
  (sw_sr x9 74 6 5 q2).bind fun T12 =>
  (sw_pf T12 73 1 5).bind fun T13 =>
  some (T13)
theorem A3 {G : sp_G} {z n : Nat} (hn : 221 ≤ n) {T : sw_T} {K : sw_K} {res : sw_T} {Q : sp_R → sp_M → Prop} (h : w3 T = some res) (kk : Q (.inl none) (sw_M z n sw_Ft res K)) : sq_go G 3 0 [some (.ref (z + 73)), none, none] [] (sw_M z n sw_Ft T K) Q := by
  unfold w3 at h
  refine go_l qd3_0 rfl ?_
  refine ga_gf (v := .ref (z + 74)) qd3_1 qc3 qf0_11 (sw_sl hn (by decide)) rfl rfl ?_
  refine go_s qd3_4 rfl ?_
  obtain ⟨q2, e1, h⟩ := sw_bind h
  refine ga_lrm qd3_5 (sw_sl hn (by decide)) e1 (fun hq2 => ?_)
  refine go_l (L' := [some (.ref (z + 73)), some (.ref (z + q2)), none]) (st' := []) qd3_6 rfl ?_
  refine go_s qd3_7 rfl ?_
  refine go_l (L' := [some (.ref (z + 73)), some (.ref (z + q2)), some (.int (Int32.ofInt 1))]) (st' := []) qd3_8 rfl ?_
  obtain ⟨x9, e10, h⟩ := sw_bind h
  refine sq_weak (L := [some (.ref (z + 73)), some (.ref (z + q2)), some (.int (Int32.ofInt 1))]) ⟨rfl, rfl, rfl, trivial⟩ (B3_9 hn hq2 (res := x9) ?_ _ _ _ e10)
  refine go_l qd3_35 rfl ?_
  refine ga_gf (v := .ref (z + 74)) qd3_36 qc3 qf0_11 (sw_sl hn (by decide)) rfl rfl ?_
  refine go_s qd3_39 rfl ?_
  refine go_l qd3_40 rfl ?_
  obtain ⟨T12, e11, h⟩ := sw_bind h
  refine ga_srm qd3_41 (sw_sl hn (by decide)) (sw_rb hn hq2) (sw_rn hq2) e11 ?_
  refine go_l qd3_42 rfl ?_
  refine go_s qd3_43 rfl ?_
  obtain ⟨T13, e14, h⟩ := sw_bind h
  refine ga_pfi qd3_44 qc3 qg0_18 (sw_sl hn (by decide)) rfl qi0_1 e14 ?_
  rw [← sw_sj h] at kk
  exact ga_rv qd3_47 qr3 kk
theorem qf2_11 : (sp_fd sp_flT 2 11).or (sp_fd sp_fnT 2 11) = some (2, 0) := by decide +kernel
theorem qc6 : sq_c 6 = 2 := by decide +kernel
theorem qf2_19 : (sp_fd sp_flT 2 19).or (sp_fd sp_fnT 2 19) = some (2, 1) := by decide +kernel
theorem qr6 : sq_ret 6 = none := by decide +kernel
-- 6: SewingPiles$Piles.copyFrom(LSewingPiles$Piles;)V
def w17_22 (b : Nat) (c : Nat) (l2 : Int) : Nat → sw_T → Int → Option (sw_T)
  | 0, _, _ => none
  | m + 1, T, l3 =>
    (sw_r2 l3 16).bind fun _u =>
    if l3 < 16 then
      (sw_rw 7 l2).bind fun u10 =>
      (sw_rw 7 l2).bind fun u12 =>
      (sw_ld T (c + 12 + 1 + u12) 16 l3).bind fun v14 =>
      (sw_st T (b + 12 + 1 + u10) 16 l3 v14).bind fun T16 =>
      w17_22 b c l2 m T16 (l3 + 1)
    else
      some (T)
theorem B6_22 {G : sp_G} {z n : Nat} (hn : 221 ≤ n) {b : Nat} (hb : b ∈ sw_rm) {c : Nat} (hc : c ∈ sw_rm) {l2 : Int} {K : sw_K} {res : sw_T} {Q : sp_R → sp_M → Prop} (kk : sq_go G 6 50 [some (.ref (z + (b + 10))), some (.ref (z + (c + 10))), some (.int (Int32.ofInt l2)), none] [] (sw_M z n sw_Ft res K) Q) : ∀ (m : Nat) (T : sw_T) (l3 : Int), w17_22 b c l2 m T l3 = some res → sq_go G 6 22 [some (.ref (z + (b + 10))), some (.ref (z + (c + 10))), some (.int (Int32.ofInt l2)), some (.int (Int32.ofInt l3))] [] (sw_M z n sw_Ft T K) Q := by
  intro m
  induction m with
  | zero => intro T l3 h; cases h
  | succ m ih =>
    intro T l3 h
    rw [w17_22] at h
    refine go_l qd6_22 rfl ?_
    refine ga_k8 qd6_23 rfl ?_
    obtain ⟨_u, e7, h⟩ := sw_bind h
    by_cases hb8 : l3 < 16
    · replace h := sw_ifY hb8 h
      refine ga_cgeY (t := 50) qd6_25 e7 hb8 rfl ?_
      refine go_l qd6_28 rfl ?_
      refine ga_gf (v := .ref (z + (b + 12))) qd6_29 qc6 qf2_19 (sw_rk hn hb 10 (by decide)) rfl rfl ?_
      refine go_l qd6_32 rfl ?_
      obtain ⟨u10, e9, h⟩ := sw_bind h
      refine ga_row qd6_33 (sw_rk hn hb 12 (by decide)) e9 ?_
      refine go_l qd6_34 rfl ?_
      refine go_l qd6_35 rfl ?_
      refine ga_gf (v := .ref (z + (c + 12))) qd6_36 qc6 qf2_19 (sw_rk hn hc 10 (by decide)) rfl rfl ?_
      refine go_l qd6_39 rfl ?_
      obtain ⟨u12, e11, h⟩ := sw_bind h
      refine ga_row qd6_40 (sw_rk hn hc 12 (by decide)) e11 ?_
      refine go_l qd6_41 rfl ?_
      obtain ⟨v14, e13, h⟩ := sw_bind h
      refine ga_iald qd6_42 (sw_rr hn hc e11) e13 ?_
      obtain ⟨T16, e15, h⟩ := sw_bind h
      refine ga_iast qd6_43 (sw_rr hn hb e9) e15 ?_
      refine ga_ii (L' := [some (.ref (z + (b + 10))), some (.ref (z + (c + 10))), some (.int (Int32.ofInt l2)), some (.int (Int32.ofInt (l3 + 1)))]) qd6_44 rfl rfl ?_
      refine ga_jp (t := 22) qd6_47 rfl ?_
      exact sq_weak (L := [some (.ref (z + (b + 10))), some (.ref (z + (c + 10))), some (.int (Int32.ofInt l2)), some (.int (Int32.ofInt (l3 + 1)))]) ⟨rfl, rfl, rfl, rfl, trivial⟩ (ih _ _ h)
    · replace h := sw_ifN hb8 h
      refine ga_cgeN (t := 50) qd6_25 e7 hb8 rfl ?_
      rw [← sw_sj h] at kk
      exact sq_weak (L := [some (.ref (z + (b + 10))), some (.ref (z + (c + 10))), some (.int (Int32.ofInt l2)), none]) ⟨rfl, rfl, rfl, trivial⟩ kk
def w17_2 (b : Nat) (c : Nat) : Nat → sw_T → Int → Option (sw_T)
  | 0, _, _ => none
  | m + 1, T, l2 =>
    (sw_r2 l2 7).bind fun _u =>
    if l2 < 7 then
      (sw_ld T (c + 11) 7 l2).bind fun v4 =>
      (sw_st T (b + 11) 7 l2 v4).bind fun T6 =>
      (w17_22 b c l2 sw_N T6 0).bind fun x17 =>
      w17_2 b c m x17 (l2 + 1)
    else
      some (T)
theorem B6_2 {G : sp_G} {z n : Nat} (hn : 221 ≤ n) {b : Nat} (hb : b ∈ sw_rm) {c : Nat} (hc : c ∈ sw_rm) {K : sw_K} {res : sw_T} {Q : sp_R → sp_M → Prop} (kk : sq_go G 6 56 [none, none, none, none] [] (sw_M z n sw_Ft res K) Q) : ∀ (m : Nat) (T : sw_T) (l2 : Int), w17_2 b c m T l2 = some res → sq_go G 6 2 [some (.ref (z + (b + 10))), some (.ref (z + (c + 10))), some (.int (Int32.ofInt l2)), none] [] (sw_M z n sw_Ft T K) Q := by
  intro m
  induction m with
  | zero => intro T l2 h; cases h
  | succ m ih =>
    intro T l2 h
    rw [w17_2] at h
    refine go_l qd6_2 rfl ?_
    refine ga_k8 qd6_3 rfl ?_
    obtain ⟨_u, e1, h⟩ := sw_bind h
    by_cases hb2 : l2 < 7
    · replace h := sw_ifY hb2 h
      refine ga_cgeY (t := 56) qd6_5 e1 hb2 rfl ?_
      refine go_l qd6_8 rfl ?_
      refine ga_gf (v := .ref (z + (b + 11))) qd6_9 qc6 qf2_11 (sw_rk hn hb 10 (by decide)) rfl rfl ?_
      refine go_l qd6_12 rfl ?_
      refine go_l qd6_13 rfl ?_
      refine ga_gf (v := .ref (z + (c + 11))) qd6_14 qc6 qf2_11 (sw_rk hn hc 10 (by decide)) rfl rfl ?_
      refine go_l qd6_17 rfl ?_
      obtain ⟨v4, e3, h⟩ := sw_bind h
      refine ga_iald qd6_18 (sw_rk hn hc 11 (by decide)) e3 ?_
      obtain ⟨T6, e5, h⟩ := sw_bind h
      refine ga_iast qd6_19 (sw_rk hn hb 11 (by decide)) e5 ?_
      refine go_s qd6_20 rfl ?_
      refine go_l (L' := [some (.ref (z + (b + 10))), some (.ref (z + (c + 10))), some (.int (Int32.ofInt l2)), some (.int (Int32.ofInt 0))]) (st' := []) qd6_21 rfl ?_
      obtain ⟨x17, e18, h⟩ := sw_bind h
      refine sq_weak (L := [some (.ref (z + (b + 10))), some (.ref (z + (c + 10))), some (.int (Int32.ofInt l2)), some (.int (Int32.ofInt 0))]) ⟨rfl, rfl, rfl, rfl, trivial⟩ (B6_22 hn hb hc (res := x17) ?_ _ _ _ e18)
      refine ga_ii (L' := [some (.ref (z + (b + 10))), some (.ref (z + (c + 10))), some (.int (Int32.ofInt (l2 + 1))), none]) qd6_50 rfl rfl ?_
      refine ga_jp (t := 2) qd6_53 rfl ?_
      exact sq_weak (L := [some (.ref (z + (b + 10))), some (.ref (z + (c + 10))), some (.int (Int32.ofInt (l2 + 1))), none]) ⟨rfl, rfl, rfl, trivial⟩ (ih _ _ h)
    · replace h := sw_ifN hb2 h
      refine ga_cgeN (t := 56) qd6_5 e1 hb2 rfl ?_
      rw [← sw_sj h] at kk
      exact sq_weak (L := [none, none, none, none]) trivial kk
def w17 (b : Nat) (c : Nat) (T : sw_T) : Option (sw_T) :=
  (w17_2 b c sw_N T 0).bind fun x19 =>
  some (x19)
theorem A6 {G : sp_G} {z n : Nat} (hn : 221 ≤ n) {b : Nat} (hb : b ∈ sw_rm) {c : Nat} (hc : c ∈ sw_rm) {T : sw_T} {K : sw_K} {res : sw_T} {Q : sp_R → sp_M → Prop} (h : w17 b c T = some res) (kk : Q (.inl none) (sw_M z n sw_Ft res K)) : sq_go G 6 0 [some (.ref (z + (b + 10))), some (.ref (z + (c + 10))), none, none] [] (sw_M z n sw_Ft T K) Q := by
  unfold w17 at h
  refine go_s qd6_0 rfl ?_
  refine go_l (L' := [some (.ref (z + (b + 10))), some (.ref (z + (c + 10))), some (.int (Int32.ofInt 0)), none]) (st' := []) qd6_1 rfl ?_
  obtain ⟨x19, e20, h⟩ := sw_bind h
  refine sq_weak (L := [some (.ref (z + (b + 10))), some (.ref (z + (c + 10))), some (.int (Int32.ofInt 0)), none]) ⟨rfl, rfl, rfl, trivial⟩ (B6_2 hn hb hc (res := x19) ?_ _ _ _ e20)
  rw [← sw_sj h] at kk
  exact ga_rv qd6_56 qr6 kk
theorem qf4_21 : (sp_fd sp_flT 4 21).or (sp_fd sp_fnT 4 21) = some (4, 0) := by decide +kernel
theorem qc38 : sq_c 38 = 4 := by decide +kernel
theorem qg4_21 : sp_fd sp_flT 4 21 = some (4, 0) := by decide +kernel
theorem qf4_9 : (sp_fd sp_flT 4 9).or (sp_fd sp_fnT 4 9) = some (4, 1) := by decide +kernel
theorem qf4_15 : (sp_fd sp_flT 4 15).or (sp_fd sp_fnT 4 15) = some (4, 2) := by decide +kernel
theorem qf4_18 : (sp_fd sp_flT 4 18).or (sp_fd sp_fnT 4 18) = some (4, 3) := by decide +kernel
theorem qr38 : sq_ret 38 = none := by decide +kernel
-- 38: SewingPiles$Shirts.copyFrom(LSewingPiles$Shirts;)V
def w50_10 (b : Nat) (c : Nat) : Nat → sw_T → Int → Option (sw_T)
  | 0, _, _ => none
  | m + 1, T, l2 =>
    (sw_r2 l2 (T (b + 20) 0)).bind fun _u =>
    if l2 < (T (b + 20) 0) then
      (sw_r2 l2 120).bind fun _u =>
      if l2 < 120 then
        (sw_ld T (c + 21) 120 l2).bind fun v8 =>
        (sw_st T (b + 21) 120 l2 v8).bind fun T10 =>
        (sw_ld T10 (c + 22) 120 l2).bind fun v12 =>
        (sw_st T10 (b + 22) 120 l2 v12).bind fun T14 =>
        (sw_ld T14 (c + 23) 120 l2).bind fun v16 =>
        (sw_st T14 (b + 23) 120 l2 v16).bind fun T18 =>
        w50_10 b c m T18 (l2 + 1)
      else
        some (T)
    else
      some (T)
theorem B38_10 {G : sp_G} {z n : Nat} (hn : 221 ≤ n) {b : Nat} (hb : b ∈ sw_rm) {c : Nat} (hc : c ∈ sw_rm) {K : sw_K} {res : sw_T} {Q : sp_R → sp_M → Prop} (kk : sq_go G 38 66 [none, none, none] [] (sw_M z n sw_Ft res K) Q) : ∀ (m : Nat) (T : sw_T) (l2 : Int), w50_10 b c m T l2 = some res → sq_go G 38 10 [some (.ref (z + (b + 20))), some (.ref (z + (c + 20))), some (.int (Int32.ofInt l2))] [] (sw_M z n sw_Ft T K) Q := by
  intro m
  induction m with
  | zero => intro T l2 h; cases h
  | succ m ih =>
    intro T l2 h
    rw [w50_10] at h
    refine go_l qd38_10 rfl ?_
    refine go_l qd38_11 rfl ?_
    refine ga_gf (v := .int (Int32.ofInt (T (b + 20) 0))) qd38_12 qc38 qf4_21 (sw_rk hn hb 20 (by decide)) rfl rfl ?_
    obtain ⟨_u, e3, h⟩ := sw_bind h
    by_cases hb4 : l2 < (T (b + 20) 0)
    · replace h := sw_ifY hb4 h
      refine ga_cgeY (t := 66) qd38_15 e3 hb4 rfl ?_
      refine go_l qd38_18 rfl ?_
      refine ga_k8 qd38_19 rfl ?_
      obtain ⟨_u, e5, h⟩ := sw_bind h
      by_cases hb6 : l2 < 120
      · replace h := sw_ifY hb6 h
        refine ga_cgeY (t := 66) qd38_21 e5 hb6 rfl ?_
        refine go_l qd38_24 rfl ?_
        refine ga_gf (v := .ref (z + (b + 21))) qd38_25 qc38 qf4_9 (sw_rk hn hb 20 (by decide)) rfl rfl ?_
        refine go_l qd38_28 rfl ?_
        refine go_l qd38_29 rfl ?_
        refine ga_gf (v := .ref (z + (c + 21))) qd38_30 qc38 qf4_9 (sw_rk hn hc 20 (by decide)) rfl rfl ?_
        refine go_l qd38_33 rfl ?_
        obtain ⟨v8, e7, h⟩ := sw_bind h
        refine ga_iald qd38_34 (sw_rk hn hc 21 (by decide)) e7 ?_
        obtain ⟨T10, e9, h⟩ := sw_bind h
        refine ga_iast qd38_35 (sw_rk hn hb 21 (by decide)) e9 ?_
        refine go_l qd38_36 rfl ?_
        refine ga_gf (v := .ref (z + (b + 22))) qd38_37 qc38 qf4_15 (sw_rk hn hb 20 (by decide)) rfl rfl ?_
        refine go_l qd38_40 rfl ?_
        refine go_l qd38_41 rfl ?_
        refine ga_gf (v := .ref (z + (c + 22))) qd38_42 qc38 qf4_15 (sw_rk hn hc 20 (by decide)) rfl rfl ?_
        refine go_l qd38_45 rfl ?_
        obtain ⟨v12, e11, h⟩ := sw_bind h
        refine ga_iald qd38_46 (sw_rk hn hc 22 (by decide)) e11 ?_
        obtain ⟨T14, e13, h⟩ := sw_bind h
        refine ga_iast qd38_47 (sw_rk hn hb 22 (by decide)) e13 ?_
        refine go_l qd38_48 rfl ?_
        refine ga_gf (v := .ref (z + (b + 23))) qd38_49 qc38 qf4_18 (sw_rk hn hb 20 (by decide)) rfl rfl ?_
        refine go_l qd38_52 rfl ?_
        refine go_l qd38_53 rfl ?_
        refine ga_gf (v := .ref (z + (c + 23))) qd38_54 qc38 qf4_18 (sw_rk hn hc 20 (by decide)) rfl rfl ?_
        refine go_l qd38_57 rfl ?_
        obtain ⟨v16, e15, h⟩ := sw_bind h
        refine ga_iald qd38_58 (sw_rk hn hc 23 (by decide)) e15 ?_
        obtain ⟨T18, e17, h⟩ := sw_bind h
        refine ga_iast qd38_59 (sw_rk hn hb 23 (by decide)) e17 ?_
        refine ga_ii (L' := [some (.ref (z + (b + 20))), some (.ref (z + (c + 20))), some (.int (Int32.ofInt (l2 + 1)))]) qd38_60 rfl rfl ?_
        refine ga_jp (t := 10) qd38_63 rfl ?_
        exact sq_weak (L := [some (.ref (z + (b + 20))), some (.ref (z + (c + 20))), some (.int (Int32.ofInt (l2 + 1)))]) ⟨rfl, rfl, rfl, trivial⟩ (ih _ _ h)
      · replace h := sw_ifN hb6 h
        refine ga_cgeN (t := 66) qd38_21 e5 hb6 rfl ?_
        rw [← sw_sj h] at kk
        exact sq_weak (L := [none, none, none]) trivial kk
    · replace h := sw_ifN hb4 h
      refine ga_cgeN (t := 66) qd38_15 e3 hb4 rfl ?_
      rw [← sw_sj h] at kk
      exact sq_weak (L := [none, none, none]) trivial kk
def w50 (b : Nat) (c : Nat) (T : sw_T) : Option (sw_T) :=
  (sw_pf T (b + 20) 0 (T (c + 20) 0)).bind fun T1 =>
  (w50_10 b c sw_N T1 0).bind fun x19 =>
  some (x19)
theorem A38 {G : sp_G} {z n : Nat} (hn : 221 ≤ n) {b : Nat} (hb : b ∈ sw_rm) {c : Nat} (hc : c ∈ sw_rm) {T : sw_T} {K : sw_K} {res : sw_T} {Q : sp_R → sp_M → Prop} (h : w50 b c T = some res) (kk : Q (.inl none) (sw_M z n sw_Ft res K)) : sq_go G 38 0 [some (.ref (z + (b + 20))), some (.ref (z + (c + 20))), none] [] (sw_M z n sw_Ft T K) Q := by
  unfold w50 at h
  refine go_l qd38_0 rfl ?_
  refine go_l qd38_1 rfl ?_
  refine ga_gf (v := .int (Int32.ofInt (T (c + 20) 0))) qd38_2 qc38 qf4_21 (sw_rk hn hc 20 (by decide)) rfl rfl ?_
  obtain ⟨T1, e2, h⟩ := sw_bind h
  refine ga_pfi qd38_5 qc38 qg4_21 (sw_rk hn hb 20 (by decide)) rfl qi4_0 e2 ?_
  refine go_s qd38_8 rfl ?_
  refine go_l (L' := [some (.ref (z + (b + 20))), some (.ref (z + (c + 20))), some (.int (Int32.ofInt 0))]) (st' := []) qd38_9 rfl ?_
  obtain ⟨x19, e20, h⟩ := sw_bind h
  refine sq_weak (L := [some (.ref (z + (b + 20))), some (.ref (z + (c + 20))), some (.int (Int32.ofInt 0))]) ⟨rfl, rfl, rfl, trivial⟩ (B38_10 hn hb hc (res := x19) ?_ _ _ _ e20)
  rw [← sw_sj h] at kk
  exact ga_rv qd38_66 qr38 kk
theorem qf3_58 : (sp_fd sp_flT 3 58).or (sp_fd sp_fnT 3 58) = some (3, 0) := by decide +kernel
theorem qc13 : sq_c 13 = 3 := by decide +kernel
theorem qg3_58 : sp_fd sp_flT 3 58 = some (3, 0) := by decide +kernel
theorem qf3_9 : (sp_fd sp_flT 3 9).or (sp_fd sp_fnT 3 9) = some (3, 1) := by decide +kernel
theorem qg3_9 : sp_fd sp_flT 3 9 = some (3, 1) := by decide +kernel
theorem qf3_61 : (sp_fd sp_flT 3 61).or (sp_fd sp_fnT 3 61) = some (3, 2) := by decide +kernel
theorem qg3_61 : sp_fd sp_flT 3 61 = some (3, 2) := by decide +kernel
theorem qf3_64 : (sp_fd sp_flT 3 64).or (sp_fd sp_fnT 3 64) = some (3, 3) := by decide +kernel
theorem qg3_64 : sp_fd sp_flT 3 64 = some (3, 3) := by decide +kernel
theorem qf3_15 : (sp_fd sp_flT 3 15).or (sp_fd sp_fnT 3 15) = some (3, 4) := by decide +kernel
theorem qf3_19 : (sp_fd sp_flT 3 19).or (sp_fd sp_fnT 3 19) = some (3, 5) := by decide +kernel
theorem qf3_22 : (sp_fd sp_flT 3 22).or (sp_fd sp_fnT 3 22) = some (3, 6) := by decide +kernel
theorem qf3_25 : (sp_fd sp_flT 3 25).or (sp_fd sp_fnT 3 25) = some (3, 7) := by decide +kernel
theorem qf3_28 : (sp_fd sp_flT 3 28).or (sp_fd sp_fnT 3 28) = some (3, 8) := by decide +kernel
theorem qf3_32 : (sp_fd sp_flT 3 32).or (sp_fd sp_fnT 3 32) = some (3, 9) := by decide +kernel
theorem qf3_35 : (sp_fd sp_flT 3 35).or (sp_fd sp_fnT 3 35) = some (3, 10) := by decide +kernel
theorem qf3_38 : (sp_fd sp_flT 3 38).or (sp_fd sp_fnT 3 38) = some (3, 11) := by decide +kernel
theorem qf3_41 : (sp_fd sp_flT 3 41).or (sp_fd sp_fnT 3 41) = some (3, 12) := by decide +kernel
theorem qf3_47 : (sp_fd sp_flT 3 47).or (sp_fd sp_fnT 3 47) = some (3, 13) := by decide +kernel
theorem qk13_67 : sw_ck 13 67 6 0 1 2 4 = true := by decide +kernel
theorem qf3_54 : (sp_fd sp_flT 3 54).or (sp_fd sp_fnT 3 54) = some (3, 14) := by decide +kernel
theorem qk13_71 : sw_ck 13 71 38 0 1 4 3 = true := by decide +kernel
theorem qr13 : sq_ret 13 = none := by decide +kernel
-- 13: SewingPiles$Room.copyFrom(LSewingPiles$Room;)V
def w24_34 (b : Nat) (c : Nat) : Nat → sw_T → Int → Option (sw_T)
  | 0, _, _ => none
  | m + 1, T, l2 =>
    (sw_r2 l2 3).bind fun _u =>
    if l2 < 3 then
      (sw_ld T (c + 1) 3 l2).bind fun v12 =>
      (sw_st T (b + 1) 3 l2 v12).bind fun T14 =>
      w24_34 b c m T14 (l2 + 1)
    else
      some (T)
theorem B13_34 {G : sp_G} {z n : Nat} (hn : 221 ≤ n) {b : Nat} (hb : b ∈ sw_rm) {c : Nat} (hc : c ∈ sw_rm) {K : sw_K} {res : sw_T} {Q : sp_R → sp_M → Prop} (kk : sq_go G 13 57 [some (.ref (z + b)), some (.ref (z + c)), none] [] (sw_M z n sw_Ft res K) Q) : ∀ (m : Nat) (T : sw_T) (l2 : Int), w24_34 b c m T l2 = some res → sq_go G 13 34 [some (.ref (z + b)), some (.ref (z + c)), some (.int (Int32.ofInt l2))] [] (sw_M z n sw_Ft T K) Q := by
  intro m
  induction m with
  | zero => intro T l2 h; cases h
  | succ m ih =>
    intro T l2 h
    rw [w24_34] at h
    refine go_l qd13_34 rfl ?_
    refine go_s qd13_35 rfl ?_
    obtain ⟨_u, e9, h⟩ := sw_bind h
    by_cases hb10 : l2 < 3
    · replace h := sw_ifY hb10 h
      refine ga_cgeY (t := 57) qd13_36 e9 hb10 rfl ?_
      refine go_l qd13_39 rfl ?_
      refine ga_gf (v := .ref (z + (b + 1))) qd13_40 qc13 qf3_15 (sw_rb hn hb) rfl rfl ?_
      refine go_l qd13_43 rfl ?_
      refine go_l qd13_44 rfl ?_
      refine ga_gf (v := .ref (z + (c + 1))) qd13_45 qc13 qf3_15 (sw_rb hn hc) rfl rfl ?_
      refine go_l qd13_48 rfl ?_
      obtain ⟨v12, e11, h⟩ := sw_bind h
      refine ga_iald qd13_49 (sw_rk hn hc 1 (by decide)) e11 ?_
      obtain ⟨T14, e13, h⟩ := sw_bind h
      refine ga_iast qd13_50 (sw_rk hn hb 1 (by decide)) e13 ?_
      refine ga_ii (L' := [some (.ref (z + b)), some (.ref (z + c)), some (.int (Int32.ofInt (l2 + 1)))]) qd13_51 rfl rfl ?_
      refine ga_jp (t := 34) qd13_54 rfl ?_
      exact sq_weak (L := [some (.ref (z + b)), some (.ref (z + c)), some (.int (Int32.ofInt (l2 + 1)))]) ⟨rfl, rfl, rfl, trivial⟩ (ih _ _ h)
    · replace h := sw_ifN hb10 h
      refine ga_cgeN (t := 57) qd13_36 e9 hb10 rfl ?_
      rw [← sw_sj h] at kk
      exact sq_weak (L := [some (.ref (z + b)), some (.ref (z + c)), none]) ⟨rfl, rfl, trivial⟩ kk
def w24_59 (b : Nat) (c : Nat) : Nat → sw_T → Int → Option (sw_T)
  | 0, _, _ => none
  | m + 1, T, l2 =>
    (sw_r2 l2 7).bind fun _u =>
    if l2 < 7 then
      (sw_ld T (c + 2) 7 l2).bind fun v20 =>
      (sw_st T (b + 2) 7 l2 v20).bind fun T22 =>
      (sw_ld T22 (c + 3) 7 l2).bind fun v24 =>
      (sw_st T22 (b + 3) 7 l2 v24).bind fun T26 =>
      (sw_ld T26 (c + 4) 7 l2).bind fun v28 =>
      (sw_st T26 (b + 4) 7 l2 v28).bind fun T30 =>
      (sw_ld T30 (c + 5) 7 l2).bind fun v32 =>
      (sw_sb T30 (b + 5) 7 l2 v32).bind fun T34 =>
      (sw_ld T34 (c + 6) 7 l2).bind fun v36 =>
      (sw_st T34 (b + 6) 7 l2 v36).bind fun T38 =>
      (sw_ld T38 (c + 7) 7 l2).bind fun v40 =>
      (sw_st T38 (b + 7) 7 l2 v40).bind fun T42 =>
      (sw_ld T42 (c + 8) 7 l2).bind fun v44 =>
      (sw_st T42 (b + 8) 7 l2 v44).bind fun T46 =>
      (sw_ld T46 (c + 9) 7 l2).bind fun v48 =>
      (sw_st T46 (b + 9) 7 l2 v48).bind fun T50 =>
      w24_59 b c m T50 (l2 + 1)
    else
      some (T)
theorem B13_59 {G : sp_G} {z n : Nat} (hn : 221 ≤ n) {b : Nat} (hb : b ∈ sw_rm) {c : Nat} (hc : c ∈ sw_rm) {K : sw_K} {res : sw_T} {Q : sp_R → sp_M → Prop} (kk : sq_go G 13 167 [some (.ref (z + b)), some (.ref (z + c)), none] [] (sw_M z n sw_Ft res K) Q) : ∀ (m : Nat) (T : sw_T) (l2 : Int), w24_59 b c m T l2 = some res → sq_go G 13 59 [some (.ref (z + b)), some (.ref (z + c)), some (.int (Int32.ofInt l2))] [] (sw_M z n sw_Ft T K) Q := by
  intro m
  induction m with
  | zero => intro T l2 h; cases h
  | succ m ih =>
    intro T l2 h
    rw [w24_59] at h
    refine go_l qd13_59 rfl ?_
    refine ga_k8 qd13_60 rfl ?_
    obtain ⟨_u, e17, h⟩ := sw_bind h
    by_cases hb18 : l2 < 7
    · replace h := sw_ifY hb18 h
      refine ga_cgeY (t := 167) qd13_62 e17 hb18 rfl ?_
      refine go_l qd13_65 rfl ?_
      refine ga_gf (v := .ref (z + (b + 2))) qd13_66 qc13 qf3_19 (sw_rb hn hb) rfl rfl ?_
      refine go_l qd13_69 rfl ?_
      refine go_l qd13_70 rfl ?_
      refine ga_gf (v := .ref (z + (c + 2))) qd13_71 qc13 qf3_19 (sw_rb hn hc) rfl rfl ?_
      refine go_l qd13_74 rfl ?_
      obtain ⟨v20, e19, h⟩ := sw_bind h
      refine ga_iald qd13_75 (sw_rk hn hc 2 (by decide)) e19 ?_
      obtain ⟨T22, e21, h⟩ := sw_bind h
      refine ga_iast qd13_76 (sw_rk hn hb 2 (by decide)) e21 ?_
      refine go_l qd13_77 rfl ?_
      refine ga_gf (v := .ref (z + (b + 3))) qd13_78 qc13 qf3_22 (sw_rb hn hb) rfl rfl ?_
      refine go_l qd13_81 rfl ?_
      refine go_l qd13_82 rfl ?_
      refine ga_gf (v := .ref (z + (c + 3))) qd13_83 qc13 qf3_22 (sw_rb hn hc) rfl rfl ?_
      refine go_l qd13_86 rfl ?_
      obtain ⟨v24, e23, h⟩ := sw_bind h
      refine ga_iald qd13_87 (sw_rk hn hc 3 (by decide)) e23 ?_
      obtain ⟨T26, e25, h⟩ := sw_bind h
      refine ga_iast qd13_88 (sw_rk hn hb 3 (by decide)) e25 ?_
      refine go_l qd13_89 rfl ?_
      refine ga_gf (v := .ref (z + (b + 4))) qd13_90 qc13 qf3_25 (sw_rb hn hb) rfl rfl ?_
      refine go_l qd13_93 rfl ?_
      refine go_l qd13_94 rfl ?_
      refine ga_gf (v := .ref (z + (c + 4))) qd13_95 qc13 qf3_25 (sw_rb hn hc) rfl rfl ?_
      refine go_l qd13_98 rfl ?_
      obtain ⟨v28, e27, h⟩ := sw_bind h
      refine ga_iald qd13_99 (sw_rk hn hc 4 (by decide)) e27 ?_
      obtain ⟨T30, e29, h⟩ := sw_bind h
      refine ga_iast qd13_100 (sw_rk hn hb 4 (by decide)) e29 ?_
      refine go_l qd13_101 rfl ?_
      refine ga_gf (v := .ref (z + (b + 5))) qd13_102 qc13 qf3_28 (sw_rb hn hb) rfl rfl ?_
      refine go_l qd13_105 rfl ?_
      refine go_l qd13_106 rfl ?_
      refine ga_gf (v := .ref (z + (c + 5))) qd13_107 qc13 qf3_28 (sw_rb hn hc) rfl rfl ?_
      refine go_l qd13_110 rfl ?_
      obtain ⟨v32, e31, h⟩ := sw_bind h
      refine ga_bald qd13_111 (sw_rk hn hc 5 (by decide)) e31 ?_
      obtain ⟨T34, e33, h⟩ := sw_bind h
      refine ga_bast qd13_112 (sw_rk hn hb 5 (by decide)) e33 ?_
      refine go_l qd13_113 rfl ?_
      refine ga_gf (v := .ref (z + (b + 6))) qd13_114 qc13 qf3_32 (sw_rb hn hb) rfl rfl ?_
      refine go_l qd13_117 rfl ?_
      refine go_l qd13_118 rfl ?_
      refine ga_gf (v := .ref (z + (c + 6))) qd13_119 qc13 qf3_32 (sw_rb hn hc) rfl rfl ?_
      refine go_l qd13_122 rfl ?_
      obtain ⟨v36, e35, h⟩ := sw_bind h
      refine ga_iald qd13_123 (sw_rk hn hc 6 (by decide)) e35 ?_
      obtain ⟨T38, e37, h⟩ := sw_bind h
      refine ga_iast qd13_124 (sw_rk hn hb 6 (by decide)) e37 ?_
      refine go_l qd13_125 rfl ?_
      refine ga_gf (v := .ref (z + (b + 7))) qd13_126 qc13 qf3_35 (sw_rb hn hb) rfl rfl ?_
      refine go_l qd13_129 rfl ?_
      refine go_l qd13_130 rfl ?_
      refine ga_gf (v := .ref (z + (c + 7))) qd13_131 qc13 qf3_35 (sw_rb hn hc) rfl rfl ?_
      refine go_l qd13_134 rfl ?_
      obtain ⟨v40, e39, h⟩ := sw_bind h
      refine ga_iald qd13_135 (sw_rk hn hc 7 (by decide)) e39 ?_
      obtain ⟨T42, e41, h⟩ := sw_bind h
      refine ga_iast qd13_136 (sw_rk hn hb 7 (by decide)) e41 ?_
      refine go_l qd13_137 rfl ?_
      refine ga_gf (v := .ref (z + (b + 8))) qd13_138 qc13 qf3_38 (sw_rb hn hb) rfl rfl ?_
      refine go_l qd13_141 rfl ?_
      refine go_l qd13_142 rfl ?_
      refine ga_gf (v := .ref (z + (c + 8))) qd13_143 qc13 qf3_38 (sw_rb hn hc) rfl rfl ?_
      refine go_l qd13_146 rfl ?_
      obtain ⟨v44, e43, h⟩ := sw_bind h
      refine ga_iald qd13_147 (sw_rk hn hc 8 (by decide)) e43 ?_
      obtain ⟨T46, e45, h⟩ := sw_bind h
      refine ga_iast qd13_148 (sw_rk hn hb 8 (by decide)) e45 ?_
      refine go_l qd13_149 rfl ?_
      refine ga_gf (v := .ref (z + (b + 9))) qd13_150 qc13 qf3_41 (sw_rb hn hb) rfl rfl ?_
      refine go_l qd13_153 rfl ?_
      refine go_l qd13_154 rfl ?_
      refine ga_gf (v := .ref (z + (c + 9))) qd13_155 qc13 qf3_41 (sw_rb hn hc) rfl rfl ?_
      refine go_l qd13_158 rfl ?_
      obtain ⟨v48, e47, h⟩ := sw_bind h
      refine ga_iald qd13_159 (sw_rk hn hc 9 (by decide)) e47 ?_
      obtain ⟨T50, e49, h⟩ := sw_bind h
      refine ga_iast qd13_160 (sw_rk hn hb 9 (by decide)) e49 ?_
      refine ga_ii (L' := [some (.ref (z + b)), some (.ref (z + c)), some (.int (Int32.ofInt (l2 + 1)))]) qd13_161 rfl rfl ?_
      refine ga_jp (t := 59) qd13_164 rfl ?_
      exact sq_weak (L := [some (.ref (z + b)), some (.ref (z + c)), some (.int (Int32.ofInt (l2 + 1)))]) ⟨rfl, rfl, rfl, trivial⟩ (ih _ _ h)
    · replace h := sw_ifN hb18 h
      refine ga_cgeN (t := 167) qd13_62 e17 hb18 rfl ?_
      rw [← sw_sj h] at kk
      exact sq_weak (L := [some (.ref (z + b)), some (.ref (z + c)), none]) ⟨rfl, rfl, trivial⟩ kk
def w24 (b : Nat) (c : Nat) (T : sw_T) : Option (sw_T) :=
  (sw_pf T b 0 (T c 0)).bind fun T1 =>
  (sw_pf T1 b 1 (T1 c 1)).bind fun T3 =>
  (sw_pf T3 b 2 (T3 c 2)).bind fun T5 =>
  (sw_pf T5 b 3 (T5 c 3)).bind fun T7 =>
  (w24_34 b c sw_N T7 0).bind fun x15 =>
  (w24_59 b c sw_N x15 0).bind fun x51 =>
  (w17 b c x51).bind fun r54 =>
  (w50 b c r54).bind fun r56 =>
  some (r56)
theorem A13 {G : sp_G} {z n : Nat} (hn : 221 ≤ n) {b : Nat} (hb : b ∈ sw_rm) {c : Nat} (hc : c ∈ sw_rm) {T : sw_T} {K : sw_K} {res : sw_T} {Q : sp_R → sp_M → Prop} (h : w24 b c T = some res) (kk : Q (.inl none) (sw_M z n sw_Ft res K)) : sq_go G 13 0 [some (.ref (z + b)), some (.ref (z + c)), none] [] (sw_M z n sw_Ft T K) Q := by
  unfold w24 at h
  refine go_l qd13_0 rfl ?_
  refine go_l qd13_1 rfl ?_
  refine ga_gf (v := .int (Int32.ofInt (T c 0))) qd13_2 qc13 qf3_58 (sw_rb hn hc) rfl rfl ?_
  obtain ⟨T1, e2, h⟩ := sw_bind h
  refine ga_pfi qd13_5 qc13 qg3_58 (sw_rb hn hb) rfl qi3_0 e2 ?_
  refine go_l qd13_8 rfl ?_
  refine go_l qd13_9 rfl ?_
  refine ga_gf (v := .int (Int32.ofInt (T1 c 1))) qd13_10 qc13 qf3_9 (sw_rb hn hc) rfl rfl ?_
  obtain ⟨T3, e4, h⟩ := sw_bind h
  refine ga_pfi qd13_13 qc13 qg3_9 (sw_rb hn hb) rfl qi3_1 e4 ?_
  refine go_l qd13_16 rfl ?_
  refine go_l qd13_17 rfl ?_
  refine ga_gf (v := .int (Int32.ofInt (T3 c 2))) qd13_18 qc13 qf3_61 (sw_rb hn hc) rfl rfl ?_
  obtain ⟨T5, e6, h⟩ := sw_bind h
  refine ga_pfi qd13_21 qc13 qg3_61 (sw_rb hn hb) rfl qi3_2 e6 ?_
  refine go_l qd13_24 rfl ?_
  refine go_l qd13_25 rfl ?_
  refine ga_gf (v := .int (Int32.ofInt (T5 c 3))) qd13_26 qc13 qf3_64 (sw_rb hn hc) rfl rfl ?_
  obtain ⟨T7, e8, h⟩ := sw_bind h
  refine ga_pfi qd13_29 qc13 qg3_64 (sw_rb hn hb) rfl qi3_3 e8 ?_
  refine go_s qd13_32 rfl ?_
  refine go_l (L' := [some (.ref (z + b)), some (.ref (z + c)), some (.int (Int32.ofInt 0))]) (st' := []) qd13_33 rfl ?_
  obtain ⟨x15, e16, h⟩ := sw_bind h
  refine sq_weak (L := [some (.ref (z + b)), some (.ref (z + c)), some (.int (Int32.ofInt 0))]) ⟨rfl, rfl, rfl, trivial⟩ (B13_34 hn hb hc (res := x15) ?_ _ _ _ e16)
  refine go_s qd13_57 rfl ?_
  refine go_l (L' := [some (.ref (z + b)), some (.ref (z + c)), some (.int (Int32.ofInt 0))]) (st' := []) qd13_58 rfl ?_
  obtain ⟨x51, e52, h⟩ := sw_bind h
  refine sq_weak (L := [some (.ref (z + b)), some (.ref (z + c)), some (.int (Int32.ofInt 0))]) ⟨rfl, rfl, rfl, trivial⟩ (B13_59 hn hb hc (res := x51) ?_ _ _ _ e52)
  refine go_l qd13_167 rfl ?_
  refine ga_gf (v := .ref (z + (b + 10))) qd13_168 qc13 qf3_47 (sw_rb hn hb) rfl rfl ?_
  refine go_l qd13_171 rfl ?_
  refine ga_gf (v := .ref (z + (c + 10))) qd13_172 qc13 qf3_47 (sw_rb hn hc) rfl rfl ?_
  obtain ⟨r54, e53, h⟩ := sw_bind h
  refine ga_kv (a := (b + 10)) (as := [.ref (z + (c + 10))]) (rest := []) qd13_175 qk13_67 (sw_rk hn hb 10 (by decide)) rfl rfl rfl (Nat.le_of_ble_eq_true rfl) (Nat.le_of_ble_eq_true rfl) rfl (A6 hn hb hc e53 (sw_bk0 ?_))
  refine go_l qd13_178 rfl ?_
  refine ga_gf (v := .ref (z + (b + 20))) qd13_179 qc13 qf3_54 (sw_rb hn hb) rfl rfl ?_
  refine go_l qd13_182 rfl ?_
  refine ga_gf (v := .ref (z + (c + 20))) qd13_183 qc13 qf3_54 (sw_rb hn hc) rfl rfl ?_
  obtain ⟨r56, e55, h⟩ := sw_bind h
  refine ga_kv (a := (b + 20)) (as := [.ref (z + (c + 20))]) (rest := []) qd13_186 qk13_71 (sw_rk hn hb 20 (by decide)) rfl rfl rfl (Nat.le_of_ble_eq_true rfl) (Nat.le_of_ble_eq_true rfl) rfl (A38 hn hb hc e55 (sw_bk0 ?_))
  rw [← sw_sj h] at kk
  exact ga_rv qd13_189 qr13 kk
theorem qf0_18 : (sp_fd sp_flT 0 18).or (sp_fd sp_fnT 0 18) = some (0, 1) := by decide +kernel
theorem qc1 : sq_c 1 = 0 := by decide +kernel
theorem qk1_25 : sw_ck 1 25 13 0 1 3 3 = true := by decide +kernel
theorem qr1 : sq_ret 1 = none := by decide +kernel
theorem qk1_22 : sw_ck 1 22 3 0 0 0 3 = true := by decide +kernel
-- 1: SewingPiles$History.save(LSewingPiles$Room;)V
def w1_13 (b : Nat) (T : sw_T) : Option (sw_T) :=
  (sw_lr T 74 6 (T 73 1)).bind fun q4 =>
  (w24 q4 b T).bind fun r6 =>
  (sw_pf r6 73 1 ((r6 73 1) + 1)).bind fun T7 =>
  some (T7)
theorem B1_13 {G : sp_G} {z n : Nat} (hn : 221 ≤ n) {b : Nat} (hb : b ∈ sw_rm) {T : sw_T} {K : sw_K} {res : sw_T} {Q : sp_R → sp_M → Prop} (h : w1_13 b T = some res) (kk : Q (.inl none) (sw_M z n sw_Ft res K)) : sq_go G 1 13 [some (.ref (z + 73)), some (.ref (z + b)), none] [] (sw_M z n sw_Ft T K) Q := by
  unfold w1_13 at h
  refine go_l qd1_13 rfl ?_
  refine ga_gf (v := .ref (z + 74)) qd1_14 qc1 qf0_11 (sw_sl hn (by decide)) rfl rfl ?_
  refine go_l qd1_17 rfl ?_
  refine ga_gf (v := .int (Int32.ofInt (T 73 1))) qd1_18 qc1 qf0_18 (sw_sl hn (by decide)) rfl rfl ?_
  obtain ⟨q4, e3, h⟩ := sw_bind h
  refine ga_lrm qd1_21 (sw_sl hn (by decide)) e3 (fun hq4 => ?_)
  refine go_l (L' := [some (.ref (z + 73)), some (.ref (z + b)), some (.ref (z + q4))]) (st' := []) qd1_22 rfl ?_
  refine go_l qd1_23 rfl ?_
  refine go_j qd1_24 rfl ?_
  refine go_l qd1_27 rfl ?_
  refine go_l qd1_28 rfl ?_
  obtain ⟨r6, e5, h⟩ := sw_bind h
  refine ga_kv (a := q4) (as := [.ref (z + b)]) (rest := []) qd1_29 qk1_25 (sw_rb hn hq4) rfl rfl rfl (Nat.le_of_ble_eq_true rfl) (Nat.le_of_ble_eq_true rfl) rfl (A13 hn hq4 hb e5 (sw_bk0 ?_))
  refine go_l qd1_32 rfl ?_
  refine go_s qd1_33 rfl ?_
  refine ga_gf (v := .int (Int32.ofInt (r6 73 1))) qd1_34 qc1 qf0_18 (sw_sl hn (by decide)) rfl rfl ?_
  refine go_s qd1_37 rfl ?_
  refine ga_iadd qd1_38 ?_
  obtain ⟨T7, e8, h⟩ := sw_bind h
  refine ga_pfi qd1_39 qc1 qg0_18 (sw_sl hn (by decide)) rfl qi0_1 e8 ?_
  rw [← sw_sj h] at kk
  exact ga_rv qd1_42 qr1 kk
def w1 (b : Nat) (T : sw_T) : Option (sw_T) :=
  (sw_r2 (T 73 1) 6).bind fun _u =>
  if (T 73 1) < 6 then
    w1_13 b T
  else
    (w3 T).bind fun r10 =>
    w1_13 b r10
theorem A1 {G : sp_G} {z n : Nat} (hn : 221 ≤ n) {b : Nat} (hb : b ∈ sw_rm) {T : sw_T} {K : sw_K} {res : sw_T} {Q : sp_R → sp_M → Prop} (h : w1 b T = some res) (kk : Q (.inl none) (sw_M z n sw_Ft res K)) : sq_go G 1 0 [some (.ref (z + 73)), some (.ref (z + b)), none] [] (sw_M z n sw_Ft T K) Q := by
  unfold w1 at h
  refine go_l qd1_0 rfl ?_
  refine ga_gf (v := .int (Int32.ofInt (T 73 1))) qd1_1 qc1 qf0_18 (sw_sl hn (by decide)) rfl rfl ?_
  refine ga_k8 qd1_4 rfl ?_
  obtain ⟨_u, e1, h⟩ := sw_bind h
  by_cases hb2 : (T 73 1) < 6
  · replace h := sw_ifY hb2 h
    refine ga_cltY (t := 13) qd1_6 e1 hb2 rfl ?_
    exact sq_weak (L := [some (.ref (z + 73)), some (.ref (z + b)), none]) ⟨rfl, rfl, trivial⟩ (B1_13 hn hb h kk)
  · replace h := sw_ifN hb2 h
    refine ga_cltN (t := 13) qd1_6 e1 hb2 rfl ?_
    refine go_l qd1_9 rfl ?_
    obtain ⟨r10, e9, h⟩ := sw_bind h
    refine ga_kv (a := 73) (as := []) (rest := []) qd1_10 qk1_22 (sw_sl hn (by decide)) rfl rfl rfl (Nat.le_of_ble_eq_true rfl) (Nat.le_of_ble_eq_true rfl) rfl (A3 hn e9 (sw_bk0 ?_))
    exact sq_weak (L := [some (.ref (z + 73)), some (.ref (z + b)), none]) ⟨rfl, rfl, trivial⟩ (B1_13 hn hb h kk)
theorem qc2 : sq_c 2 = 0 := by decide +kernel
theorem qr2 : sq_ret 2 = none := by decide +kernel
theorem qk2_25 : sw_ck 2 25 13 0 1 3 3 = true := by decide +kernel
-- 2: SewingPiles$History.restoreLatest(LSewingPiles$Room;)V
def w2 (b : Nat) (T : sw_T) : Option (sw_T) :=
  (sw_r2 (T 73 1) 1).bind fun _u =>
  if (T 73 1) < 1 then
    some (T)
  else
    (sw_r2 (T 73 1) 6).bind fun _u =>
    if 6 < (T 73 1) then
      some (T)
    else
      (sw_pf T 73 1 ((T 73 1) - 1)).bind fun T5 =>
      (sw_lr T5 74 6 (T5 73 1)).bind fun q8 =>
      (w24 b q8 T5).bind fun r10 =>
      some (r10)
theorem A2 {G : sp_G} {z n : Nat} (hn : 221 ≤ n) {b : Nat} (hb : b ∈ sw_rm) {T : sw_T} {K : sw_K} {res : sw_T} {Q : sp_R → sp_M → Prop} (h : w2 b T = some res) (kk : Q (.inl none) (sw_M z n sw_Ft res K)) : sq_go G 2 0 [some (.ref (z + 73)), some (.ref (z + b)), none] [] (sw_M z n sw_Ft T K) Q := by
  unfold w2 at h
  refine go_l qd2_0 rfl ?_
  refine ga_gf (v := .int (Int32.ofInt (T 73 1))) qd2_1 qc2 qf0_18 (sw_sl hn (by decide)) rfl rfl ?_
  refine go_s qd2_4 rfl ?_
  obtain ⟨_u, e1, h⟩ := sw_bind h
  by_cases hb2 : (T 73 1) < 1
  · replace h := sw_ifY hb2 h
    refine ga_cltY (t := 17) qd2_5 e1 hb2 rfl ?_
    rw [← sw_sj h] at kk
    exact ga_rv qd2_17 qr2 kk
  · replace h := sw_ifN hb2 h
    refine ga_cltN (t := 17) qd2_5 e1 hb2 rfl ?_
    refine go_l qd2_8 rfl ?_
    refine ga_gf (v := .int (Int32.ofInt (T 73 1))) qd2_9 qc2 qf0_18 (sw_sl hn (by decide)) rfl rfl ?_
    refine ga_k8 qd2_12 rfl ?_
    obtain ⟨_u, e3, h⟩ := sw_bind h
    by_cases hb4 : 6 < (T 73 1)
    · replace h := sw_ifY hb4 h
      refine ga_cleY (t := 18) qd2_14 e3 hb4 rfl ?_
      rw [← sw_sj h] at kk
      exact ga_rv qd2_17 qr2 kk
    · replace h := sw_ifN hb4 h
      refine ga_cleN (t := 18) qd2_14 e3 hb4 rfl ?_
      refine go_l qd2_18 rfl ?_
      refine go_s qd2_19 rfl ?_
      refine ga_gf (v := .int (Int32.ofInt (T 73 1))) qd2_20 qc2 qf0_18 (sw_sl hn (by decide)) rfl rfl ?_
      refine go_s qd2_23 rfl ?_
      refine ga_isub qd2_24 ?_
      obtain ⟨T5, e6, h⟩ := sw_bind h
      refine ga_pfi qd2_25 qc2 qg0_18 (sw_sl hn (by decide)) rfl qi0_1 e6 ?_
      refine go_l qd2_28 rfl ?_
      refine ga_gf (v := .ref (z + 74)) qd2_29 qc2 qf0_11 (sw_sl hn (by decide)) rfl rfl ?_
      refine go_l qd2_32 rfl ?_
      refine ga_gf (v := .int (Int32.ofInt (T5 73 1))) qd2_33 qc2 qf0_18 (sw_sl hn (by decide)) rfl rfl ?_
      obtain ⟨q8, e7, h⟩ := sw_bind h
      refine ga_lrm qd2_36 (sw_sl hn (by decide)) e7 (fun hq8 => ?_)
      refine go_l (L' := [some (.ref (z + 73)), some (.ref (z + b)), some (.ref (z + q8))]) (st' := []) qd2_37 rfl ?_
      refine go_l qd2_38 rfl ?_
      refine go_j qd2_39 rfl ?_
      refine go_l qd2_42 rfl ?_
      refine go_l qd2_43 rfl ?_
      obtain ⟨r10, e9, h⟩ := sw_bind h
      refine ga_kv (a := b) (as := [.ref (z + q8)]) (rest := []) qd2_44 qk2_25 (sw_rb hn hb) rfl rfl rfl (Nat.le_of_ble_eq_true rfl) (Nat.le_of_ble_eq_true rfl) rfl (A13 hn hb hq8 e9 (sw_bk0 ?_))
      rw [← sw_sj h] at kk
      exact ga_rv qd2_47 qr2 kk
theorem qr7 : sq_ret 7 = some .int := by decide +kernel
theorem qc7 : sq_c 7 = 2 := by decide +kernel
-- 7: SewingPiles$Piles.height(I)I
def w18 (b : Nat) (T : sw_T) (p1 : Int) : Option (Int) :=
  (sw_r1 p1).bind fun _u =>
  if p1 < 0 then
    some (0)
  else
    (sw_r2 p1 7).bind fun _u =>
    if p1 < 7 then
      (sw_ld T (b + 11) 7 p1).bind fun v6 =>
      some (v6)
    else
      some (0)
theorem A7 {G : sp_G} {z n : Nat} (hn : 221 ≤ n) {b : Nat} (hb : b ∈ sw_rm) {T : sw_T} {K : sw_K} {p1 : Int} {res : Int} {Q : sp_R → sp_M → Prop} (h : w18 b T p1 = some res) (kk : Q (.inl (some (.int (Int32.ofInt res)))) (sw_M z n sw_Ft T K)) : sq_go G 7 0 [some (.ref (z + (b + 10))), some (.int (Int32.ofInt p1))] [] (sw_M z n sw_Ft T K) Q := by
  unfold w18 at h
  refine go_l qd7_0 rfl ?_
  obtain ⟨_u, e1, h⟩ := sw_bind h
  by_cases hb2 : p1 < 0
  · replace h := sw_ifY hb2 h
    refine ga_zltY (t := 19) qd7_1 e1 hb2 rfl ?_
    refine go_s qd7_19 rfl ?_
    rw [← sw_sj h] at kk
    exact ga_ri qd7_20 qr7 kk
  · replace h := sw_ifN hb2 h
    refine ga_zltN (t := 19) qd7_1 e1 hb2 rfl ?_
    refine go_l qd7_4 rfl ?_
    refine ga_k8 qd7_5 rfl ?_
    obtain ⟨_u, e3, h⟩ := sw_bind h
    by_cases hb4 : p1 < 7
    · replace h := sw_ifY hb4 h
      refine ga_cgeY (t := 19) qd7_7 e3 hb4 rfl ?_
      refine go_l qd7_10 rfl ?_
      refine ga_gf (v := .ref (z + (b + 11))) qd7_11 qc7 qf2_11 (sw_rk hn hb 10 (by decide)) rfl rfl ?_
      refine go_l qd7_14 rfl ?_
      obtain ⟨v6, e5, h⟩ := sw_bind h
      refine ga_iald qd7_15 (sw_rk hn hb 11 (by decide)) e5 ?_
      refine ga_jp (t := 20) qd7_16 rfl ?_
      rw [← sw_sj h] at kk
      exact ga_ri qd7_20 qr7 kk
    · replace h := sw_ifN hb4 h
      refine ga_cgeN (t := 19) qd7_7 e3 hb4 rfl ?_
      refine go_s qd7_19 rfl ?_
      rw [← sw_sj h] at kk
      exact ga_ri qd7_20 qr7 kk
theorem qr8 : sq_ret 8 = some .int := by decide +kernel
theorem qc8 : sq_c 8 = 2 := by decide +kernel
-- 8: SewingPiles$Piles.at(II)I
def w19 (b : Nat) (T : sw_T) (p1 : Int) (p2 : Int) : Option (Int) :=
  (sw_r1 p1).bind fun _u =>
  if p1 < 0 then
    some ((-1))
  else
    (sw_r2 p1 7).bind fun _u =>
    if p1 < 7 then
      (sw_r1 p2).bind fun _u =>
      if p2 < 0 then
        some ((-1))
      else
        (sw_r2 p2 16).bind fun _u =>
        if p2 < 16 then
          (sw_ld T (b + 11) 7 p1).bind fun v10 =>
          (sw_r2 p2 v10).bind fun _u =>
          if p2 < v10 then
            (sw_rw 7 p1).bind fun u14 =>
            (sw_ld T (b + 12 + 1 + u14) 16 p2).bind fun v16 =>
            some (v16)
          else
            some ((-1))
        else
          some ((-1))
    else
      some ((-1))
theorem A8 {G : sp_G} {z n : Nat} (hn : 221 ≤ n) {b : Nat} (hb : b ∈ sw_rm) {T : sw_T} {K : sw_K} {p1 : Int} {p2 : Int} {res : Int} {Q : sp_R → sp_M → Prop} (h : w19 b T p1 p2 = some res) (kk : Q (.inl (some (.int (Int32.ofInt res)))) (sw_M z n sw_Ft T K)) : sq_go G 8 0 [some (.ref (z + (b + 10))), some (.int (Int32.ofInt p1)), some (.int (Int32.ofInt p2))] [] (sw_M z n sw_Ft T K) Q := by
  unfold w19 at h
  refine go_l qd8_0 rfl ?_
  obtain ⟨_u, e1, h⟩ := sw_bind h
  by_cases hb2 : p1 < 0
  · replace h := sw_ifY hb2 h
    refine ga_zltY (t := 20) qd8_1 e1 hb2 rfl ?_
    refine go_s qd8_20 rfl ?_
    rw [← sw_sj h] at kk
    exact ga_ri qd8_21 qr8 kk
  · replace h := sw_ifN hb2 h
    refine ga_zltN (t := 20) qd8_1 e1 hb2 rfl ?_
    refine go_l qd8_4 rfl ?_
    refine ga_k8 qd8_5 rfl ?_
    obtain ⟨_u, e3, h⟩ := sw_bind h
    by_cases hb4 : p1 < 7
    · replace h := sw_ifY hb4 h
      refine ga_cgeY (t := 20) qd8_7 e3 hb4 rfl ?_
      refine go_l qd8_10 rfl ?_
      obtain ⟨_u, e5, h⟩ := sw_bind h
      by_cases hb6 : p2 < 0
      · replace h := sw_ifY hb6 h
        refine ga_zltY (t := 20) qd8_11 e5 hb6 rfl ?_
        refine go_s qd8_20 rfl ?_
        rw [← sw_sj h] at kk
        exact ga_ri qd8_21 qr8 kk
      · replace h := sw_ifN hb6 h
        refine ga_zltN (t := 20) qd8_11 e5 hb6 rfl ?_
        refine go_l qd8_14 rfl ?_
        refine ga_k8 qd8_15 rfl ?_
        obtain ⟨_u, e7, h⟩ := sw_bind h
        by_cases hb8 : p2 < 16
        · replace h := sw_ifY hb8 h
          refine ga_cltY (t := 22) qd8_17 e7 hb8 rfl ?_
          refine go_l qd8_22 rfl ?_
          refine go_l qd8_23 rfl ?_
          refine ga_gf (v := .ref (z + (b + 11))) qd8_24 qc8 qf2_11 (sw_rk hn hb 10 (by decide)) rfl rfl ?_
          refine go_l qd8_27 rfl ?_
          obtain ⟨v10, e9, h⟩ := sw_bind h
          refine ga_iald qd8_28 (sw_rk hn hb 11 (by decide)) e9 ?_
          obtain ⟨_u, e11, h⟩ := sw_bind h
          by_cases hb12 : p2 < v10
          · replace h := sw_ifY hb12 h
            refine ga_cgeY (t := 43) qd8_29 e11 hb12 rfl ?_
            refine go_l qd8_32 rfl ?_
            refine ga_gf (v := .ref (z + (b + 12))) qd8_33 qc8 qf2_19 (sw_rk hn hb 10 (by decide)) rfl rfl ?_
            refine go_l qd8_36 rfl ?_
            obtain ⟨u14, e13, h⟩ := sw_bind h
            refine ga_row qd8_37 (sw_rk hn hb 12 (by decide)) e13 ?_
            refine go_l qd8_38 rfl ?_
            obtain ⟨v16, e15, h⟩ := sw_bind h
            refine ga_iald qd8_39 (sw_rr hn hb e13) e15 ?_
            refine ga_jp (t := 44) qd8_40 rfl ?_
            rw [← sw_sj h] at kk
            exact ga_ri qd8_44 qr8 kk
          · replace h := sw_ifN hb12 h
            refine ga_cgeN (t := 43) qd8_29 e11 hb12 rfl ?_
            refine go_s qd8_43 rfl ?_
            rw [← sw_sj h] at kk
            exact ga_ri qd8_44 qr8 kk
        · replace h := sw_ifN hb8 h
          refine ga_cltN (t := 22) qd8_17 e7 hb8 rfl ?_
          refine go_s qd8_20 rfl ?_
          rw [← sw_sj h] at kk
          exact ga_ri qd8_21 qr8 kk
    · replace h := sw_ifN hb4 h
      refine ga_cgeN (t := 20) qd8_7 e3 hb4 rfl ?_
      refine go_s qd8_20 rfl ?_
      rw [← sw_sj h] at kk
      exact ga_ri qd8_21 qr8 kk
theorem qr9 : sq_ret 9 = none := by decide +kernel
theorem qc9 : sq_c 9 = 2 := by decide +kernel
-- 9: SewingPiles$Piles.putNear(II)V
def w20 (b : Nat) (T : sw_T) (p1 : Int) (p2 : Int) : Option (sw_T) :=
  (sw_r1 p1).bind fun _u =>
  if p1 < 0 then
    some (T)
  else
    (sw_r2 p1 7).bind fun _u =>
    if p1 < 7 then
      (sw_ld T (b + 11) 7 p1).bind fun v6 =>
      (sw_r1 v6).bind fun _u =>
      if v6 < 0 then
        some (T)
      else
        (sw_r2 v6 16).bind fun _u =>
        if v6 < 16 then
          (sw_rw 7 p1).bind fun u12 =>
          (sw_st T (b + 12 + 1 + u12) 16 v6 p2).bind fun T14 =>
          (sw_st T14 (b + 11) 7 p1 (v6 + 1)).bind fun T16 =>
          some (T16)
        else
          some (T)
    else
      some (T)
theorem A9 {G : sp_G} {z n : Nat} (hn : 221 ≤ n) {b : Nat} (hb : b ∈ sw_rm) {T : sw_T} {K : sw_K} {p1 : Int} {p2 : Int} {res : sw_T} {Q : sp_R → sp_M → Prop} (h : w20 b T p1 p2 = some res) (kk : Q (.inl none) (sw_M z n sw_Ft res K)) : sq_go G 9 0 [some (.ref (z + (b + 10))), some (.int (Int32.ofInt p1)), some (.int (Int32.ofInt p2)), none] [] (sw_M z n sw_Ft T K) Q := by
  unfold w20 at h
  refine go_l qd9_0 rfl ?_
  obtain ⟨_u, e1, h⟩ := sw_bind h
  by_cases hb2 : p1 < 0
  · replace h := sw_ifY hb2 h
    refine ga_zltY (t := 10) qd9_1 e1 hb2 rfl ?_
    rw [← sw_sj h] at kk
    exact ga_rv qd9_10 qr9 kk
  · replace h := sw_ifN hb2 h
    refine ga_zltN (t := 10) qd9_1 e1 hb2 rfl ?_
    refine go_l qd9_4 rfl ?_
    refine ga_k8 qd9_5 rfl ?_
    obtain ⟨_u, e3, h⟩ := sw_bind h
    by_cases hb4 : p1 < 7
    · replace h := sw_ifY hb4 h
      refine ga_cltY (t := 11) qd9_7 e3 hb4 rfl ?_
      refine go_l qd9_11 rfl ?_
      refine ga_gf (v := .ref (z + (b + 11))) qd9_12 qc9 qf2_11 (sw_rk hn hb 10 (by decide)) rfl rfl ?_
      refine go_l qd9_15 rfl ?_
      obtain ⟨v6, e5, h⟩ := sw_bind h
      refine ga_iald qd9_16 (sw_rk hn hb 11 (by decide)) e5 ?_
      refine go_l (L' := [some (.ref (z + (b + 10))), some (.int (Int32.ofInt p1)), some (.int (Int32.ofInt p2)), some (.int (Int32.ofInt v6))]) (st' := []) qd9_17 rfl ?_
      refine go_l qd9_18 rfl ?_
      obtain ⟨_u, e7, h⟩ := sw_bind h
      by_cases hb8 : v6 < 0
      · replace h := sw_ifY hb8 h
        refine ga_zltY (t := 46) qd9_19 e7 hb8 rfl ?_
        rw [← sw_sj h] at kk
        exact ga_rv qd9_46 qr9 kk
      · replace h := sw_ifN hb8 h
        refine ga_zltN (t := 46) qd9_19 e7 hb8 rfl ?_
        refine go_l qd9_22 rfl ?_
        refine ga_k8 qd9_23 rfl ?_
        obtain ⟨_u, e9, h⟩ := sw_bind h
        by_cases hb10 : v6 < 16
        · replace h := sw_ifY hb10 h
          refine ga_cgeY (t := 46) qd9_25 e9 hb10 rfl ?_
          refine go_l qd9_28 rfl ?_
          refine ga_gf (v := .ref (z + (b + 12))) qd9_29 qc9 qf2_19 (sw_rk hn hb 10 (by decide)) rfl rfl ?_
          refine go_l qd9_32 rfl ?_
          obtain ⟨u12, e11, h⟩ := sw_bind h
          refine ga_row qd9_33 (sw_rk hn hb 12 (by decide)) e11 ?_
          refine go_l qd9_34 rfl ?_
          refine go_l qd9_35 rfl ?_
          obtain ⟨T14, e13, h⟩ := sw_bind h
          refine ga_iast qd9_36 (sw_rr hn hb e11) e13 ?_
          refine go_l qd9_37 rfl ?_
          refine ga_gf (v := .ref (z + (b + 11))) qd9_38 qc9 qf2_11 (sw_rk hn hb 10 (by decide)) rfl rfl ?_
          refine go_l qd9_41 rfl ?_
          refine go_l qd9_42 rfl ?_
          refine go_s qd9_43 rfl ?_
          refine ga_iadd qd9_44 ?_
          obtain ⟨T16, e15, h⟩ := sw_bind h
          refine ga_iast qd9_45 (sw_rk hn hb 11 (by decide)) e15 ?_
          rw [← sw_sj h] at kk
          exact ga_rv qd9_46 qr9 kk
        · replace h := sw_ifN hb10 h
          refine ga_cgeN (t := 46) qd9_25 e9 hb10 rfl ?_
          rw [← sw_sj h] at kk
          exact ga_rv qd9_46 qr9 kk
    · replace h := sw_ifN hb4 h
      refine ga_cltN (t := 11) qd9_7 e3 hb4 rfl ?_
      rw [← sw_sj h] at kk
      exact ga_rv qd9_10 qr9 kk
theorem qr10 : sq_ret 10 = some .int := by decide +kernel
theorem qc10 : sq_c 10 = 2 := by decide +kernel
-- 10: SewingPiles$Piles.takeNear(I)I
def w21 (b : Nat) (T : sw_T) (p1 : Int) : Option (Int × sw_T) :=
  (sw_r1 p1).bind fun _u =>
  if p1 < 0 then
    some (((-1), T))
  else
    (sw_r2 p1 7).bind fun _u =>
    if p1 < 7 then
      (sw_ld T (b + 11) 7 p1).bind fun v6 =>
      (sw_r1 (v6 - 1)).bind fun _u =>
      if (v6 - 1) < 0 then
        some (((-1), T))
      else
        (sw_r2 (v6 - 1) 16).bind fun _u =>
        if (v6 - 1) < 16 then
          (sw_st T (b + 11) 7 p1 (v6 - 1)).bind fun T12 =>
          (sw_rw 7 p1).bind fun u14 =>
          (sw_ld T12 (b + 12 + 1 + u14) 16 (v6 - 1)).bind fun v16 =>
          some ((v16, T12))
        else
          some (((-1), T))
    else
      some (((-1), T))
theorem A10 {G : sp_G} {z n : Nat} (hn : 221 ≤ n) {b : Nat} (hb : b ∈ sw_rm) {T : sw_T} {K : sw_K} {p1 : Int} {res : Int × sw_T} {Q : sp_R → sp_M → Prop} (h : w21 b T p1 = some res) (kk : Q (.inl (some (.int (Int32.ofInt res.1)))) (sw_M z n sw_Ft res.2 K)) : sq_go G 10 0 [some (.ref (z + (b + 10))), some (.int (Int32.ofInt p1)), none] [] (sw_M z n sw_Ft T K) Q := by
  unfold w21 at h
  refine go_l qd10_0 rfl ?_
  obtain ⟨_u, e1, h⟩ := sw_bind h
  by_cases hb2 : p1 < 0
  · replace h := sw_ifY hb2 h
    refine ga_zltY (t := 10) qd10_1 e1 hb2 rfl ?_
    refine go_s qd10_10 rfl ?_
    rw [← sw_sj h] at kk
    exact ga_ri qd10_11 qr10 kk
  · replace h := sw_ifN hb2 h
    refine ga_zltN (t := 10) qd10_1 e1 hb2 rfl ?_
    refine go_l qd10_4 rfl ?_
    refine ga_k8 qd10_5 rfl ?_
    obtain ⟨_u, e3, h⟩ := sw_bind h
    by_cases hb4 : p1 < 7
    · replace h := sw_ifY hb4 h
      refine ga_cltY (t := 12) qd10_7 e3 hb4 rfl ?_
      refine go_l qd10_12 rfl ?_
      refine ga_gf (v := .ref (z + (b + 11))) qd10_13 qc10 qf2_11 (sw_rk hn hb 10 (by decide)) rfl rfl ?_
      refine go_l qd10_16 rfl ?_
      obtain ⟨v6, e5, h⟩ := sw_bind h
      refine ga_iald qd10_17 (sw_rk hn hb 11 (by decide)) e5 ?_
      refine go_s qd10_18 rfl ?_
      refine ga_isub qd10_19 ?_
      refine go_l (L' := [some (.ref (z + (b + 10))), some (.int (Int32.ofInt p1)), some (.int (Int32.ofInt (v6 - 1)))]) (st' := []) qd10_20 rfl ?_
      refine go_l qd10_21 rfl ?_
      obtain ⟨_u, e7, h⟩ := sw_bind h
      by_cases hb8 : (v6 - 1) < 0
      · replace h := sw_ifY hb8 h
        refine ga_zltY (t := 31) qd10_22 e7 hb8 rfl ?_
        refine go_s qd10_31 rfl ?_
        rw [← sw_sj h] at kk
        exact ga_ri qd10_32 qr10 kk
      · replace h := sw_ifN hb8 h
        refine ga_zltN (t := 31) qd10_22 e7 hb8 rfl ?_
        refine go_l qd10_25 rfl ?_
        refine ga_k8 qd10_26 rfl ?_
        obtain ⟨_u, e9, h⟩ := sw_bind h
        by_cases hb10 : (v6 - 1) < 16
        · replace h := sw_ifY hb10 h
          refine ga_cltY (t := 33) qd10_28 e9 hb10 rfl ?_
          refine go_l qd10_33 rfl ?_
          refine ga_gf (v := .ref (z + (b + 11))) qd10_34 qc10 qf2_11 (sw_rk hn hb 10 (by decide)) rfl rfl ?_
          refine go_l qd10_37 rfl ?_
          refine go_l qd10_38 rfl ?_
          obtain ⟨T12, e11, h⟩ := sw_bind h
          refine ga_iast qd10_39 (sw_rk hn hb 11 (by decide)) e11 ?_
          refine go_l qd10_40 rfl ?_
          refine ga_gf (v := .ref (z + (b + 12))) qd10_41 qc10 qf2_19 (sw_rk hn hb 10 (by decide)) rfl rfl ?_
          refine go_l qd10_44 rfl ?_
          obtain ⟨u14, e13, h⟩ := sw_bind h
          refine ga_row qd10_45 (sw_rk hn hb 12 (by decide)) e13 ?_
          refine go_l qd10_46 rfl ?_
          obtain ⟨v16, e15, h⟩ := sw_bind h
          refine ga_iald qd10_47 (sw_rr hn hb e13) e15 ?_
          rw [← sw_sj h] at kk
          exact ga_ri qd10_48 qr10 kk
        · replace h := sw_ifN hb10 h
          refine ga_cltN (t := 33) qd10_28 e9 hb10 rfl ?_
          refine go_s qd10_31 rfl ?_
          rw [← sw_sj h] at kk
          exact ga_ri qd10_32 qr10 kk
    · replace h := sw_ifN hb4 h
      refine ga_cltN (t := 12) qd10_7 e3 hb4 rfl ?_
      refine go_s qd10_10 rfl ?_
      rw [← sw_sj h] at kk
      exact ga_ri qd10_11 qr10 kk
theorem qr11 : sq_ret 11 = some .int := by decide +kernel
theorem qc11 : sq_c 11 = 2 := by decide +kernel
-- 11: SewingPiles$Piles.takeFar(I)I
def w22_33 (b : Nat) (l1 : Int) (l2 : Int) : Nat → sw_T → Int → Option (sw_T)
  | 0, _, _ => none
  | m + 1, T, l3 =>
    (sw_r2 l3 16).bind fun _u =>
    if l3 < 16 then
      (sw_rw 7 l1).bind fun u16 =>
      (sw_rw 7 l1).bind fun u18 =>
      (sw_ld T (b + 12 + 1 + u18) 16 l3).bind fun v20 =>
      (sw_st T (b + 12 + 1 + u16) 16 (l3 - 1) v20).bind fun T22 =>
      w22_33 b l1 l2 m T22 (l3 + 1)
    else
      some (T)
theorem B11_33 {G : sp_G} {z n : Nat} (hn : 221 ≤ n) {b : Nat} (hb : b ∈ sw_rm) {l1 : Int} {l2 : Int} {K : sw_K} {res : sw_T} {Q : sp_R → sp_M → Prop} (kk : sq_go G 11 63 [some (.ref (z + (b + 10))), some (.int (Int32.ofInt l1)), some (.int (Int32.ofInt l2)), none] [] (sw_M z n sw_Ft res K) Q) : ∀ (m : Nat) (T : sw_T) (l3 : Int), w22_33 b l1 l2 m T l3 = some res → sq_go G 11 33 [some (.ref (z + (b + 10))), some (.int (Int32.ofInt l1)), some (.int (Int32.ofInt l2)), some (.int (Int32.ofInt l3))] [] (sw_M z n sw_Ft T K) Q := by
  intro m
  induction m with
  | zero => intro T l3 h; cases h
  | succ m ih =>
    intro T l3 h
    rw [w22_33] at h
    refine go_l qd11_33 rfl ?_
    refine ga_k8 qd11_34 rfl ?_
    obtain ⟨_u, e13, h⟩ := sw_bind h
    by_cases hb14 : l3 < 16
    · replace h := sw_ifY hb14 h
      refine ga_cgeY (t := 63) qd11_36 e13 hb14 rfl ?_
      refine go_l qd11_39 rfl ?_
      refine ga_gf (v := .ref (z + (b + 12))) qd11_40 qc11 qf2_19 (sw_rk hn hb 10 (by decide)) rfl rfl ?_
      refine go_l qd11_43 rfl ?_
      obtain ⟨u16, e15, h⟩ := sw_bind h
      refine ga_row qd11_44 (sw_rk hn hb 12 (by decide)) e15 ?_
      refine go_l qd11_45 rfl ?_
      refine go_s qd11_46 rfl ?_
      refine ga_isub qd11_47 ?_
      refine go_l qd11_48 rfl ?_
      refine ga_gf (v := .ref (z + (b + 12))) qd11_49 qc11 qf2_19 (sw_rk hn hb 10 (by decide)) rfl rfl ?_
      refine go_l qd11_52 rfl ?_
      obtain ⟨u18, e17, h⟩ := sw_bind h
      refine ga_row qd11_53 (sw_rk hn hb 12 (by decide)) e17 ?_
      refine go_l qd11_54 rfl ?_
      obtain ⟨v20, e19, h⟩ := sw_bind h
      refine ga_iald qd11_55 (sw_rr hn hb e17) e19 ?_
      obtain ⟨T22, e21, h⟩ := sw_bind h
      refine ga_iast qd11_56 (sw_rr hn hb e15) e21 ?_
      refine ga_ii (L' := [some (.ref (z + (b + 10))), some (.int (Int32.ofInt l1)), some (.int (Int32.ofInt l2)), some (.int (Int32.ofInt (l3 + 1)))]) qd11_57 rfl rfl ?_
      refine ga_jp (t := 33) qd11_60 rfl ?_
      exact sq_weak (L := [some (.ref (z + (b + 10))), some (.int (Int32.ofInt l1)), some (.int (Int32.ofInt l2)), some (.int (Int32.ofInt (l3 + 1)))]) ⟨rfl, rfl, rfl, rfl, trivial⟩ (ih _ _ h)
    · replace h := sw_ifN hb14 h
      refine ga_cgeN (t := 63) qd11_36 e13 hb14 rfl ?_
      rw [← sw_sj h] at kk
      exact sq_weak (L := [some (.ref (z + (b + 10))), some (.int (Int32.ofInt l1)), some (.int (Int32.ofInt l2)), none]) ⟨rfl, rfl, rfl, trivial⟩ kk
def w22 (b : Nat) (T : sw_T) (p1 : Int) : Option (Int × sw_T) :=
  (sw_r1 p1).bind fun _u =>
  if p1 < 0 then
    some (((-1), T))
  else
    (sw_r2 p1 7).bind fun _u =>
    if p1 < 7 then
      (sw_ld T (b + 11) 7 p1).bind fun v6 =>
      (sw_r2 v6 1).bind fun _u =>
      if v6 < 1 then
        some (((-1), T))
      else
        (sw_rw 7 p1).bind fun u10 =>
        (sw_ld T (b + 12 + 1 + u10) 16 0).bind fun v12 =>
        (w22_33 b p1 v12 sw_N T 1).bind fun x23 =>
        (sw_ld x23 (b + 11) 7 p1).bind fun v26 =>
        (sw_st x23 (b + 11) 7 p1 (v26 - 1)).bind fun T28 =>
        some ((v12, T28))
    else
      some (((-1), T))
theorem A11 {G : sp_G} {z n : Nat} (hn : 221 ≤ n) {b : Nat} (hb : b ∈ sw_rm) {T : sw_T} {K : sw_K} {p1 : Int} {res : Int × sw_T} {Q : sp_R → sp_M → Prop} (h : w22 b T p1 = some res) (kk : Q (.inl (some (.int (Int32.ofInt res.1)))) (sw_M z n sw_Ft res.2 K)) : sq_go G 11 0 [some (.ref (z + (b + 10))), some (.int (Int32.ofInt p1)), none, none] [] (sw_M z n sw_Ft T K) Q := by
  unfold w22 at h
  refine go_l qd11_0 rfl ?_
  obtain ⟨_u, e1, h⟩ := sw_bind h
  by_cases hb2 : p1 < 0
  · replace h := sw_ifY hb2 h
    refine ga_zltY (t := 20) qd11_1 e1 hb2 rfl ?_
    refine go_s qd11_20 rfl ?_
    rw [← sw_sj h] at kk
    exact ga_ri qd11_21 qr11 kk
  · replace h := sw_ifN hb2 h
    refine ga_zltN (t := 20) qd11_1 e1 hb2 rfl ?_
    refine go_l qd11_4 rfl ?_
    refine ga_k8 qd11_5 rfl ?_
    obtain ⟨_u, e3, h⟩ := sw_bind h
    by_cases hb4 : p1 < 7
    · replace h := sw_ifY hb4 h
      refine ga_cgeY (t := 20) qd11_7 e3 hb4 rfl ?_
      refine go_l qd11_10 rfl ?_
      refine ga_gf (v := .ref (z + (b + 11))) qd11_11 qc11 qf2_11 (sw_rk hn hb 10 (by decide)) rfl rfl ?_
      refine go_l qd11_14 rfl ?_
      obtain ⟨v6, e5, h⟩ := sw_bind h
      refine ga_iald qd11_15 (sw_rk hn hb 11 (by decide)) e5 ?_
      refine go_s qd11_16 rfl ?_
      obtain ⟨_u, e7, h⟩ := sw_bind h
      by_cases hb8 : v6 < 1
      · replace h := sw_ifY hb8 h
        refine ga_cgeY (t := 22) qd11_17 e7 hb8 rfl ?_
        refine go_s qd11_20 rfl ?_
        rw [← sw_sj h] at kk
        exact ga_ri qd11_21 qr11 kk
      · replace h := sw_ifN hb8 h
        refine ga_cgeN (t := 22) qd11_17 e7 hb8 rfl ?_
        refine go_l qd11_22 rfl ?_
        refine ga_gf (v := .ref (z + (b + 12))) qd11_23 qc11 qf2_19 (sw_rk hn hb 10 (by decide)) rfl rfl ?_
        refine go_l qd11_26 rfl ?_
        obtain ⟨u10, e9, h⟩ := sw_bind h
        refine ga_row qd11_27 (sw_rk hn hb 12 (by decide)) e9 ?_
        refine go_s qd11_28 rfl ?_
        obtain ⟨v12, e11, h⟩ := sw_bind h
        refine ga_iald qd11_29 (sw_rr hn hb e9) e11 ?_
        refine go_l (L' := [some (.ref (z + (b + 10))), some (.int (Int32.ofInt p1)), some (.int (Int32.ofInt v12)), none]) (st' := []) qd11_30 rfl ?_
        refine go_s qd11_31 rfl ?_
        refine go_l (L' := [some (.ref (z + (b + 10))), some (.int (Int32.ofInt p1)), some (.int (Int32.ofInt v12)), some (.int (Int32.ofInt 1))]) (st' := []) qd11_32 rfl ?_
        obtain ⟨x23, e24, h⟩ := sw_bind h
        refine sq_weak (L := [some (.ref (z + (b + 10))), some (.int (Int32.ofInt p1)), some (.int (Int32.ofInt v12)), some (.int (Int32.ofInt 1))]) ⟨rfl, rfl, rfl, rfl, trivial⟩ (B11_33 hn hb (res := x23) ?_ _ _ _ e24)
        refine go_l qd11_63 rfl ?_
        refine ga_gf (v := .ref (z + (b + 11))) qd11_64 qc11 qf2_11 (sw_rk hn hb 10 (by decide)) rfl rfl ?_
        refine go_l qd11_67 rfl ?_
        refine go_s qd11_68 rfl ?_
        obtain ⟨v26, e25, h⟩ := sw_bind h
        refine ga_iald qd11_69 (sw_rk hn hb 11 (by decide)) e25 ?_
        refine go_s qd11_70 rfl ?_
        refine ga_isub qd11_71 ?_
        obtain ⟨T28, e27, h⟩ := sw_bind h
        refine ga_iast qd11_72 (sw_rk hn hb 11 (by decide)) e27 ?_
        refine go_l qd11_73 rfl ?_
        rw [← sw_sj h] at kk
        exact ga_ri qd11_74 qr11 kk
    · replace h := sw_ifN hb4 h
      refine ga_cgeN (t := 20) qd11_7 e3 hb4 rfl ?_
      refine go_s qd11_20 rfl ?_
      rw [← sw_sj h] at kk
      exact ga_ri qd11_21 qr11 kk
theorem qr14 : sq_ret 14 = some .boolean := by decide +kernel
theorem qc14 : sq_c 14 = 3 := by decide +kernel
-- 14: SewingPiles$Room.hasSeamstress(I)Z
def w25 (b : Nat) (T : sw_T) (p1 : Int) : Option (Int) :=
  (sw_r1 p1).bind fun _u =>
  if p1 < 0 then
    some (0)
  else
    (sw_r2 p1 (T b 1)).bind fun _u =>
    if p1 < (T b 1) then
      (sw_r2 p1 7).bind fun _u =>
      if p1 < 7 then
        some (1)
      else
        some (0)
    else
      some (0)
theorem A14 {G : sp_G} {z n : Nat} (hn : 221 ≤ n) {b : Nat} (hb : b ∈ sw_rm) {T : sw_T} {K : sw_K} {p1 : Int} {res : Int} {Q : sp_R → sp_M → Prop} (h : w25 b T p1 = some res) (kk : Q (.inl (some (.int (Int32.ofInt res)))) (sw_M z n sw_Ft T K)) : sq_go G 14 0 [some (.ref (z + b)), some (.int (Int32.ofInt p1))] [] (sw_M z n sw_Ft T K) Q := by
  unfold w25 at h
  refine go_l qd14_0 rfl ?_
  obtain ⟨_u, e1, h⟩ := sw_bind h
  by_cases hb2 : p1 < 0
  · replace h := sw_ifY hb2 h
    refine ga_zltY (t := 22) qd14_1 e1 hb2 rfl ?_
    refine go_s qd14_22 rfl ?_
    rw [← sw_sj h] at kk
    exact ga_rb (u := ()) qd14_23 qr14 (by decide) kk
  · replace h := sw_ifN hb2 h
    refine ga_zltN (t := 22) qd14_1 e1 hb2 rfl ?_
    refine go_l qd14_4 rfl ?_
    refine go_l qd14_5 rfl ?_
    refine ga_gf (v := .int (Int32.ofInt (T b 1))) qd14_6 qc14 qf3_9 (sw_rb hn hb) rfl rfl ?_
    obtain ⟨_u, e3, h⟩ := sw_bind h
    by_cases hb4 : p1 < (T b 1)
    · replace h := sw_ifY hb4 h
      refine ga_cgeY (t := 22) qd14_9 e3 hb4 rfl ?_
      refine go_l qd14_12 rfl ?_
      refine ga_k8 qd14_13 rfl ?_
      obtain ⟨_u, e5, h⟩ := sw_bind h
      by_cases hb6 : p1 < 7
      · replace h := sw_ifY hb6 h
        refine ga_cgeY (t := 22) qd14_15 e5 hb6 rfl ?_
        refine go_s qd14_18 rfl ?_
        refine ga_jp (t := 23) qd14_19 rfl ?_
        rw [← sw_sj h] at kk
        exact ga_rb (u := ()) qd14_23 qr14 (by decide) kk
      · replace h := sw_ifN hb6 h
        refine ga_cgeN (t := 22) qd14_15 e5 hb6 rfl ?_
        refine go_s qd14_22 rfl ?_
        rw [← sw_sj h] at kk
        exact ga_rb (u := ()) qd14_23 qr14 (by decide) kk
    · replace h := sw_ifN hb4 h
      refine ga_cgeN (t := 22) qd14_9 e3 hb4 rfl ?_
      refine go_s qd14_22 rfl ?_
      rw [← sw_sj h] at kk
      exact ga_rb (u := ()) qd14_23 qr14 (by decide) kk
theorem qc15 : sq_c 15 = 3 := by decide +kernel
theorem qr15 : sq_ret 15 = some .int := by decide +kernel
-- 15: SewingPiles$Room.addSeamstress(I)I
def w26 (b : Nat) (T : sw_T) (p1 : Int) : Option (Int × sw_T) :=
  (sw_r1 (T b 1)).bind fun _u =>
  if (T b 1) < 0 then
    some (((-1), T))
  else
    (sw_r2 (T b 1) 7).bind fun _u =>
    if (T b 1) < 7 then
      (sw_st T (b + 2) 7 (T b 1) p1).bind fun T6 =>
      (sw_pf T6 b 1 ((T6 b 1) + 1)).bind fun T7 =>
      some ((((T7 b 1) - 1), T7))
    else
      some (((-1), T))
theorem A15 {G : sp_G} {z n : Nat} (hn : 221 ≤ n) {b : Nat} (hb : b ∈ sw_rm) {T : sw_T} {K : sw_K} {p1 : Int} {res : Int × sw_T} {Q : sp_R → sp_M → Prop} (h : w26 b T p1 = some res) (kk : Q (.inl (some (.int (Int32.ofInt res.1)))) (sw_M z n sw_Ft res.2 K)) : sq_go G 15 0 [some (.ref (z + b)), some (.int (Int32.ofInt p1))] [] (sw_M z n sw_Ft T K) Q := by
  unfold w26 at h
  refine go_l qd15_0 rfl ?_
  refine ga_gf (v := .int (Int32.ofInt (T b 1))) qd15_1 qc15 qf3_9 (sw_rb hn hb) rfl rfl ?_
  obtain ⟨_u, e1, h⟩ := sw_bind h
  by_cases hb2 : (T b 1) < 0
  · replace h := sw_ifY hb2 h
    refine ga_zltY (t := 16) qd15_4 e1 hb2 rfl ?_
    refine go_s qd15_16 rfl ?_
    rw [← sw_sj h] at kk
    exact ga_ri qd15_17 qr15 kk
  · replace h := sw_ifN hb2 h
    refine ga_zltN (t := 16) qd15_4 e1 hb2 rfl ?_
    refine go_l qd15_7 rfl ?_
    refine ga_gf (v := .int (Int32.ofInt (T b 1))) qd15_8 qc15 qf3_9 (sw_rb hn hb) rfl rfl ?_
    refine ga_k8 qd15_11 rfl ?_
    obtain ⟨_u, e3, h⟩ := sw_bind h
    by_cases hb4 : (T b 1) < 7
    · replace h := sw_ifY hb4 h
      refine ga_cltY (t := 18) qd15_13 e3 hb4 rfl ?_
      refine go_l qd15_18 rfl ?_
      refine ga_gf (v := .ref (z + (b + 2))) qd15_19 qc15 qf3_19 (sw_rb hn hb) rfl rfl ?_
      refine go_l qd15_22 rfl ?_
      refine ga_gf (v := .int (Int32.ofInt (T b 1))) qd15_23 qc15 qf3_9 (sw_rb hn hb) rfl rfl ?_
      refine go_l qd15_26 rfl ?_
      obtain ⟨T6, e5, h⟩ := sw_bind h
      refine ga_iast qd15_27 (sw_rk hn hb 2 (by decide)) e5 ?_
      refine go_l qd15_28 rfl ?_
      refine go_s qd15_29 rfl ?_
      refine ga_gf (v := .int (Int32.ofInt (T6 b 1))) qd15_30 qc15 qf3_9 (sw_rb hn hb) rfl rfl ?_
      refine go_s qd15_33 rfl ?_
      refine ga_iadd qd15_34 ?_
      obtain ⟨T7, e8, h⟩ := sw_bind h
      refine ga_pfi qd15_35 qc15 qg3_9 (sw_rb hn hb) rfl qi3_1 e8 ?_
      refine go_l qd15_38 rfl ?_
      refine ga_gf (v := .int (Int32.ofInt (T7 b 1))) qd15_39 qc15 qf3_9 (sw_rb hn hb) rfl rfl ?_
      refine go_s qd15_42 rfl ?_
      refine ga_isub qd15_43 ?_
      rw [← sw_sj h] at kk
      exact ga_ri qd15_44 qr15 kk
    · replace h := sw_ifN hb4 h
      refine ga_cltN (t := 18) qd15_13 e3 hb4 rfl ?_
      refine go_s qd15_16 rfl ?_
      rw [← sw_sj h] at kk
      exact ga_ri qd15_17 qr15 kk
theorem qk16_74 : sw_ck 16 74 14 0 1 3 2 = true := by decide +kernel
theorem qr16 : sq_ret 16 = some .int := by decide +kernel
theorem qc16 : sq_c 16 = 3 := by decide +kernel
-- 16: SewingPiles$Room.changeSpeed(II)I
def w27 (b : Nat) (T : sw_T) (p1 : Int) (p2 : Int) : Option (Int × sw_T) :=
  (w25 b T p1).bind fun r2 =>
  (sw_r1 r2).bind fun _u =>
  if r2 = 0 then
    some (((-1), T))
  else
    (sw_ld T (b + 2) 7 p1).bind fun v6 =>
    (sw_st T (b + 2) 7 p1 p2).bind fun T8 =>
    some ((v6, T8))
theorem A16 {G : sp_G} {z n : Nat} (hn : 221 ≤ n) {b : Nat} (hb : b ∈ sw_rm) {T : sw_T} {K : sw_K} {p1 : Int} {p2 : Int} {res : Int × sw_T} {Q : sp_R → sp_M → Prop} (h : w27 b T p1 p2 = some res) (kk : Q (.inl (some (.int (Int32.ofInt res.1)))) (sw_M z n sw_Ft res.2 K)) : sq_go G 16 0 [some (.ref (z + b)), some (.int (Int32.ofInt p1)), some (.int (Int32.ofInt p2)), none] [] (sw_M z n sw_Ft T K) Q := by
  unfold w27 at h
  refine go_l qd16_0 rfl ?_
  refine go_l qd16_1 rfl ?_
  obtain ⟨r2, e1, h⟩ := sw_bind h
  refine ga_kv (a := b) (as := [.int (Int32.ofInt p1)]) (rest := []) qd16_2 qk16_74 (sw_rb hn hb) rfl rfl rfl (Nat.le_of_ble_eq_true rfl) (Nat.le_of_ble_eq_true rfl) rfl (A14 hn hb e1 (sw_bkv ?_))
  obtain ⟨_u, e3, h⟩ := sw_bind h
  by_cases hb4 : r2 = 0
  · replace h := sw_ifY hb4 h
    refine ga_zneY (t := 10) qd16_5 e3 hb4 rfl ?_
    refine go_s qd16_8 rfl ?_
    rw [← sw_sj h] at kk
    exact ga_ri qd16_9 qr16 kk
  · replace h := sw_ifN hb4 h
    refine ga_zneN (t := 10) qd16_5 e3 hb4 rfl ?_
    refine go_l qd16_10 rfl ?_
    refine ga_gf (v := .ref (z + (b + 2))) qd16_11 qc16 qf3_19 (sw_rb hn hb) rfl rfl ?_
    refine go_l qd16_14 rfl ?_
    obtain ⟨v6, e5, h⟩ := sw_bind h
    refine ga_iald qd16_15 (sw_rk hn hb 2 (by decide)) e5 ?_
    refine go_l (L' := [some (.ref (z + b)), some (.int (Int32.ofInt p1)), some (.int (Int32.ofInt p2)), some (.int (Int32.ofInt v6))]) (st' := []) qd16_16 rfl ?_
    refine go_l qd16_17 rfl ?_
    refine ga_gf (v := .ref (z + (b + 2))) qd16_18 qc16 qf3_19 (sw_rb hn hb) rfl rfl ?_
    refine go_l qd16_21 rfl ?_
    refine go_l qd16_22 rfl ?_
    obtain ⟨T8, e7, h⟩ := sw_bind h
    refine ga_iast qd16_23 (sw_rk hn hb 2 (by decide)) e7 ?_
    refine go_l qd16_24 rfl ?_
    rw [← sw_sj h] at kk
    exact ga_ri qd16_25 qr16 kk
theorem qk17_74 : sw_ck 17 74 14 0 1 3 2 = true := by decide +kernel
theorem qr17 : sq_ret 17 = some .int := by decide +kernel
theorem qc17 : sq_c 17 = 3 := by decide +kernel
-- 17: SewingPiles$Room.rouse(I)I
def w28 (b : Nat) (T : sw_T) (p1 : Int) : Option (Int × sw_T) :=
  (w25 b T p1).bind fun r2 =>
  (sw_r1 r2).bind fun _u =>
  if r2 = 0 then
    some (((-1), T))
  else
    (sw_ld T (b + 5) 7 p1).bind fun v6 =>
    (sw_r1 v6).bind fun _u =>
    if v6 = 0 then
      (sw_sb T (b + 5) 7 p1 0).bind fun T10 =>
      (sw_st T10 (b + 4) 7 p1 0).bind fun T12 =>
      some ((0, T12))
    else
      (sw_sb T (b + 5) 7 p1 0).bind fun T14 =>
      (sw_st T14 (b + 4) 7 p1 0).bind fun T16 =>
      some ((1, T16))
theorem A17 {G : sp_G} {z n : Nat} (hn : 221 ≤ n) {b : Nat} (hb : b ∈ sw_rm) {T : sw_T} {K : sw_K} {p1 : Int} {res : Int × sw_T} {Q : sp_R → sp_M → Prop} (h : w28 b T p1 = some res) (kk : Q (.inl (some (.int (Int32.ofInt res.1)))) (sw_M z n sw_Ft res.2 K)) : sq_go G 17 0 [some (.ref (z + b)), some (.int (Int32.ofInt p1)), none] [] (sw_M z n sw_Ft T K) Q := by
  unfold w28 at h
  refine go_l qd17_0 rfl ?_
  refine go_l qd17_1 rfl ?_
  obtain ⟨r2, e1, h⟩ := sw_bind h
  refine ga_kv (a := b) (as := [.int (Int32.ofInt p1)]) (rest := []) qd17_2 qk17_74 (sw_rb hn hb) rfl rfl rfl (Nat.le_of_ble_eq_true rfl) (Nat.le_of_ble_eq_true rfl) rfl (A14 hn hb e1 (sw_bkv ?_))
  obtain ⟨_u, e3, h⟩ := sw_bind h
  by_cases hb4 : r2 = 0
  · replace h := sw_ifY hb4 h
    refine ga_zneY (t := 10) qd17_5 e3 hb4 rfl ?_
    refine go_s qd17_8 rfl ?_
    rw [← sw_sj h] at kk
    exact ga_ri qd17_9 qr17 kk
  · replace h := sw_ifN hb4 h
    refine ga_zneN (t := 10) qd17_5 e3 hb4 rfl ?_
    refine go_l qd17_10 rfl ?_
    refine ga_gf (v := .ref (z + (b + 5))) qd17_11 qc17 qf3_28 (sw_rb hn hb) rfl rfl ?_
    refine go_l qd17_14 rfl ?_
    obtain ⟨v6, e5, h⟩ := sw_bind h
    refine ga_bald qd17_15 (sw_rk hn hb 5 (by decide)) e5 ?_
    obtain ⟨_u, e7, h⟩ := sw_bind h
    by_cases hb8 : v6 = 0
    · replace h := sw_ifY hb8 h
      refine ga_zeqY (t := 23) qd17_16 e7 hb8 rfl ?_
      refine go_s qd17_23 rfl ?_
      refine go_l (L' := [some (.ref (z + b)), some (.int (Int32.ofInt p1)), some (.int (Int32.ofInt 0))]) (st' := []) qd17_24 rfl ?_
      refine go_l qd17_25 rfl ?_
      refine ga_gf (v := .ref (z + (b + 5))) qd17_26 qc17 qf3_28 (sw_rb hn hb) rfl rfl ?_
      refine go_l qd17_29 rfl ?_
      refine go_s qd17_30 rfl ?_
      obtain ⟨T10, e9, h⟩ := sw_bind h
      refine ga_bast qd17_31 (sw_rk hn hb 5 (by decide)) e9 ?_
      refine go_l qd17_32 rfl ?_
      refine ga_gf (v := .ref (z + (b + 4))) qd17_33 qc17 qf3_25 (sw_rb hn hb) rfl rfl ?_
      refine go_l qd17_36 rfl ?_
      refine go_s qd17_37 rfl ?_
      obtain ⟨T12, e11, h⟩ := sw_bind h
      refine ga_iast qd17_38 (sw_rk hn hb 4 (by decide)) e11 ?_
      refine go_l qd17_39 rfl ?_
      rw [← sw_sj h] at kk
      exact ga_ri qd17_40 qr17 kk
    · replace h := sw_ifN hb8 h
      refine ga_zeqN (t := 23) qd17_16 e7 hb8 rfl ?_
      refine go_s qd17_19 rfl ?_
      refine ga_jp (t := 24) qd17_20 rfl ?_
      refine go_l (L' := [some (.ref (z + b)), some (.int (Int32.ofInt p1)), some (.int (Int32.ofInt 1))]) (st' := []) qd17_24 rfl ?_
      refine go_l qd17_25 rfl ?_
      refine ga_gf (v := .ref (z + (b + 5))) qd17_26 qc17 qf3_28 (sw_rb hn hb) rfl rfl ?_
      refine go_l qd17_29 rfl ?_
      refine go_s qd17_30 rfl ?_
      obtain ⟨T14, e13, h⟩ := sw_bind h
      refine ga_bast qd17_31 (sw_rk hn hb 5 (by decide)) e13 ?_
      refine go_l qd17_32 rfl ?_
      refine ga_gf (v := .ref (z + (b + 4))) qd17_33 qc17 qf3_25 (sw_rb hn hb) rfl rfl ?_
      refine go_l qd17_36 rfl ?_
      refine go_s qd17_37 rfl ?_
      obtain ⟨T16, e15, h⟩ := sw_bind h
      refine ga_iast qd17_38 (sw_rk hn hb 4 (by decide)) e15 ?_
      refine go_l qd17_39 rfl ?_
      rw [← sw_sj h] at kk
      exact ga_ri qd17_40 qr17 kk
theorem qc18 : sq_c 18 = 3 := by decide +kernel
theorem qk18_78 : sw_ck 18 78 7 0 1 2 2 = true := by decide +kernel
theorem qf3_82 : (sp_fd sp_flT 3 82).or (sp_fd sp_fnT 3 82) = some (4, 0) := by decide +kernel
theorem qr18 : sq_ret 18 = some .boolean := by decide +kernel
-- 18: SewingPiles$Room.canLayOnto(I)Z
def w29 (b : Nat) (T : sw_T) (p1 : Int) : Option (Int) :=
  (w18 b T p1).bind fun r2 =>
  (sw_r2 r2 16).bind fun _u =>
  if r2 < 16 then
    (sw_r2 (T (b + 20) 0) 120).bind fun _u =>
    if (T (b + 20) 0) < 120 then
      some (1)
    else
      some (0)
  else
    some (0)
theorem A18 {G : sp_G} {z n : Nat} (hn : 221 ≤ n) {b : Nat} (hb : b ∈ sw_rm) {T : sw_T} {K : sw_K} {p1 : Int} {res : Int} {Q : sp_R → sp_M → Prop} (h : w29 b T p1 = some res) (kk : Q (.inl (some (.int (Int32.ofInt res)))) (sw_M z n sw_Ft T K)) : sq_go G 18 0 [some (.ref (z + b)), some (.int (Int32.ofInt p1))] [] (sw_M z n sw_Ft T K) Q := by
  unfold w29 at h
  refine go_l qd18_0 rfl ?_
  refine ga_gf (v := .ref (z + (b + 10))) qd18_1 qc18 qf3_47 (sw_rb hn hb) rfl rfl ?_
  refine go_l qd18_4 rfl ?_
  obtain ⟨r2, e1, h⟩ := sw_bind h
  refine ga_kv (a := (b + 10)) (as := [.int (Int32.ofInt p1)]) (rest := []) qd18_5 qk18_78 (sw_rk hn hb 10 (by decide)) rfl rfl rfl (Nat.le_of_ble_eq_true rfl) (Nat.le_of_ble_eq_true rfl) rfl (A7 hn hb e1 (sw_bkv ?_))
  refine ga_k8 qd18_8 rfl ?_
  obtain ⟨_u, e3, h⟩ := sw_bind h
  by_cases hb4 : r2 < 16
  · replace h := sw_ifY hb4 h
    refine ga_cgeY (t := 29) qd18_10 e3 hb4 rfl ?_
    refine go_l qd18_13 rfl ?_
    refine ga_gf (v := .ref (z + (b + 20))) qd18_14 qc18 qf3_54 (sw_rb hn hb) rfl rfl ?_
    refine ga_gf (v := .int (Int32.ofInt (T (b + 20) 0))) qd18_17 qc18 qf3_82 (sw_rk hn hb 20 (by decide)) rfl rfl ?_
    refine ga_k8 qd18_20 rfl ?_
    obtain ⟨_u, e5, h⟩ := sw_bind h
    by_cases hb6 : (T (b + 20) 0) < 120
    · replace h := sw_ifY hb6 h
      refine ga_cgeY (t := 29) qd18_22 e5 hb6 rfl ?_
      refine go_s qd18_25 rfl ?_
      refine ga_jp (t := 30) qd18_26 rfl ?_
      rw [← sw_sj h] at kk
      exact ga_rb (u := ()) qd18_30 qr18 (by decide) kk
    · replace h := sw_ifN hb6 h
      refine ga_cgeN (t := 29) qd18_22 e5 hb6 rfl ?_
      refine go_s qd18_29 rfl ?_
      rw [← sw_sj h] at kk
      exact ga_rb (u := ()) qd18_30 qr18 (by decide) kk
  · replace h := sw_ifN hb4 h
    refine ga_cgeN (t := 29) qd18_10 e3 hb4 rfl ?_
    refine go_s qd18_29 rfl ?_
    rw [← sw_sj h] at kk
    exact ga_rb (u := ()) qd18_30 qr18 (by decide) kk
theorem qc40 : sq_c 40 = 4 := by decide +kernel
theorem qr40 : sq_ret 40 = some .int := by decide +kernel
-- 40: SewingPiles$Shirts.add(II)I
def w52 (b : Nat) (T : sw_T) (p1 : Int) (p2 : Int) : Option (Int × sw_T) :=
  (sw_r1 (T (b + 20) 0)).bind fun _u =>
  if (T (b + 20) 0) < 0 then
    some (((-1), T))
  else
    (sw_r2 (T (b + 20) 0) 120).bind fun _u =>
    if (T (b + 20) 0) < 120 then
      (sw_st T (b + 21) 120 (T (b + 20) 0) p2).bind fun T6 =>
      (sw_st T6 (b + 22) 120 (T6 (b + 20) 0) 0).bind fun T8 =>
      (sw_st T8 (b + 23) 120 (T8 (b + 20) 0) p1).bind fun T10 =>
      (sw_pf T10 (b + 20) 0 ((T10 (b + 20) 0) + 1)).bind fun T11 =>
      some ((((T11 (b + 20) 0) - 1), T11))
    else
      some (((-1), T))
theorem A40 {G : sp_G} {z n : Nat} (hn : 221 ≤ n) {b : Nat} (hb : b ∈ sw_rm) {T : sw_T} {K : sw_K} {p1 : Int} {p2 : Int} {res : Int × sw_T} {Q : sp_R → sp_M → Prop} (h : w52 b T p1 p2 = some res) (kk : Q (.inl (some (.int (Int32.ofInt res.1)))) (sw_M z n sw_Ft res.2 K)) : sq_go G 40 0 [some (.ref (z + (b + 20))), some (.int (Int32.ofInt p1)), some (.int (Int32.ofInt p2))] [] (sw_M z n sw_Ft T K) Q := by
  unfold w52 at h
  refine go_l qd40_0 rfl ?_
  refine ga_gf (v := .int (Int32.ofInt (T (b + 20) 0))) qd40_1 qc40 qf4_21 (sw_rk hn hb 20 (by decide)) rfl rfl ?_
  obtain ⟨_u, e1, h⟩ := sw_bind h
  by_cases hb2 : (T (b + 20) 0) < 0
  · replace h := sw_ifY hb2 h
    refine ga_zltY (t := 16) qd40_4 e1 hb2 rfl ?_
    refine go_s qd40_16 rfl ?_
    rw [← sw_sj h] at kk
    exact ga_ri qd40_17 qr40 kk
  · replace h := sw_ifN hb2 h
    refine ga_zltN (t := 16) qd40_4 e1 hb2 rfl ?_
    refine go_l qd40_7 rfl ?_
    refine ga_gf (v := .int (Int32.ofInt (T (b + 20) 0))) qd40_8 qc40 qf4_21 (sw_rk hn hb 20 (by decide)) rfl rfl ?_
    refine ga_k8 qd40_11 rfl ?_
    obtain ⟨_u, e3, h⟩ := sw_bind h
    by_cases hb4 : (T (b + 20) 0) < 120
    · replace h := sw_ifY hb4 h
      refine ga_cltY (t := 18) qd40_13 e3 hb4 rfl ?_
      refine go_l qd40_18 rfl ?_
      refine ga_gf (v := .ref (z + (b + 21))) qd40_19 qc40 qf4_9 (sw_rk hn hb 20 (by decide)) rfl rfl ?_
      refine go_l qd40_22 rfl ?_
      refine ga_gf (v := .int (Int32.ofInt (T (b + 20) 0))) qd40_23 qc40 qf4_21 (sw_rk hn hb 20 (by decide)) rfl rfl ?_
      refine go_l qd40_26 rfl ?_
      obtain ⟨T6, e5, h⟩ := sw_bind h
      refine ga_iast qd40_27 (sw_rk hn hb 21 (by decide)) e5 ?_
      refine go_l qd40_28 rfl ?_
      refine ga_gf (v := .ref (z + (b + 22))) qd40_29 qc40 qf4_15 (sw_rk hn hb 20 (by decide)) rfl rfl ?_
      refine go_l qd40_32 rfl ?_
      refine ga_gf (v := .int (Int32.ofInt (T6 (b + 20) 0))) qd40_33 qc40 qf4_21 (sw_rk hn hb 20 (by decide)) rfl rfl ?_
      refine go_s qd40_36 rfl ?_
      obtain ⟨T8, e7, h⟩ := sw_bind h
      refine ga_iast qd40_37 (sw_rk hn hb 22 (by decide)) e7 ?_
      refine go_l qd40_38 rfl ?_
      refine ga_gf (v := .ref (z + (b + 23))) qd40_39 qc40 qf4_18 (sw_rk hn hb 20 (by decide)) rfl rfl ?_
      refine go_l qd40_42 rfl ?_
      refine ga_gf (v := .int (Int32.ofInt (T8 (b + 20) 0))) qd40_43 qc40 qf4_21 (sw_rk hn hb 20 (by decide)) rfl rfl ?_
      refine go_l qd40_46 rfl ?_
      obtain ⟨T10, e9, h⟩ := sw_bind h
      refine ga_iast qd40_47 (sw_rk hn hb 23 (by decide)) e9 ?_
      refine go_l qd40_48 rfl ?_
      refine go_s qd40_49 rfl ?_
      refine ga_gf (v := .int (Int32.ofInt (T10 (b + 20) 0))) qd40_50 qc40 qf4_21 (sw_rk hn hb 20 (by decide)) rfl rfl ?_
      refine go_s qd40_53 rfl ?_
      refine ga_iadd qd40_54 ?_
      obtain ⟨T11, e12, h⟩ := sw_bind h
      refine ga_pfi qd40_55 qc40 qg4_21 (sw_rk hn hb 20 (by decide)) rfl qi4_0 e12 ?_
      refine go_l qd40_58 rfl ?_
      refine ga_gf (v := .int (Int32.ofInt (T11 (b + 20) 0))) qd40_59 qc40 qf4_21 (sw_rk hn hb 20 (by decide)) rfl rfl ?_
      refine go_s qd40_62 rfl ?_
      refine ga_isub qd40_63 ?_
      rw [← sw_sj h] at kk
      exact ga_ri qd40_64 qr40 kk
    · replace h := sw_ifN hb4 h
      refine ga_cltN (t := 18) qd40_13 e3 hb4 rfl ?_
      refine go_s qd40_16 rfl ?_
      rw [← sw_sj h] at kk
      exact ga_ri qd40_17 qr40 kk
theorem qc20 : sq_c 20 = 3 := by decide +kernel
theorem qr20 : sq_ret 20 = none := by decide +kernel
-- 20: SewingPiles$Room.wakeFirstSleeper()V
def w31_2 (b : Nat) (T : sw_T) : Nat → Int → Option ((Unit) ⊕ (sw_T))
  | 0, _ => none
  | m + 1, l1 =>
    (sw_r2 l1 (T b 1)).bind fun _u =>
    if l1 < (T b 1) then
      (sw_r2 l1 7).bind fun _u =>
      if l1 < 7 then
        (sw_ld T (b + 5) 7 l1).bind fun v6 =>
        (sw_r1 v6).bind fun _u =>
        if v6 = 0 then
          w31_2 b T m (l1 + 1)
        else
          (sw_sb T (b + 5) 7 l1 0).bind fun T10 =>
          (sw_st T10 (b + 4) 7 l1 0).bind fun T12 =>
          some (.inr (T12))
      else
        some (.inl ())
    else
      some (.inl ())
theorem B20_2 {G : sp_G} {z n : Nat} (hn : 221 ≤ n) {b : Nat} (hb : b ∈ sw_rm) {T : sw_T} {K : sw_K} {res : (Unit) ⊕ (sw_T)} {Q : sp_R → sp_M → Prop} (kk : ∀ s, res = .inl s → sq_go G 20 46 [none, none] [] (sw_M z n sw_Ft T K) Q) (kr : ∀ r, res = .inr r → Q (.inl none) (sw_M z n sw_Ft r K)) : ∀ (m : Nat) (l1 : Int), w31_2 b T m l1 = some res → sq_go G 20 2 [some (.ref (z + b)), some (.int (Int32.ofInt l1))] [] (sw_M z n sw_Ft T K) Q := by
  intro m
  induction m with
  | zero => intro l1 h; cases h
  | succ m ih =>
    intro l1 h
    rw [w31_2] at h
    refine go_l qd20_2 rfl ?_
    refine go_l qd20_3 rfl ?_
    refine ga_gf (v := .int (Int32.ofInt (T b 1))) qd20_4 qc20 qf3_9 (sw_rb hn hb) rfl rfl ?_
    obtain ⟨_u, e1, h⟩ := sw_bind h
    by_cases hb2 : l1 < (T b 1)
    · replace h := sw_ifY hb2 h
      refine ga_cgeY (t := 46) qd20_7 e1 hb2 rfl ?_
      refine go_l qd20_10 rfl ?_
      refine ga_k8 qd20_11 rfl ?_
      obtain ⟨_u, e3, h⟩ := sw_bind h
      by_cases hb4 : l1 < 7
      · replace h := sw_ifY hb4 h
        refine ga_cgeY (t := 46) qd20_13 e3 hb4 rfl ?_
        refine go_l qd20_16 rfl ?_
        refine ga_gf (v := .ref (z + (b + 5))) qd20_17 qc20 qf3_28 (sw_rb hn hb) rfl rfl ?_
        refine go_l qd20_20 rfl ?_
        obtain ⟨v6, e5, h⟩ := sw_bind h
        refine ga_bald qd20_21 (sw_rk hn hb 5 (by decide)) e5 ?_
        obtain ⟨_u, e7, h⟩ := sw_bind h
        by_cases hb8 : v6 = 0
        · replace h := sw_ifY hb8 h
          refine ga_zeqY (t := 40) qd20_22 e7 hb8 rfl ?_
          refine ga_ii (L' := [some (.ref (z + b)), some (.int (Int32.ofInt (l1 + 1)))]) qd20_40 rfl rfl ?_
          refine ga_jp (t := 2) qd20_43 rfl ?_
          exact sq_weak (L := [some (.ref (z + b)), some (.int (Int32.ofInt (l1 + 1)))]) ⟨rfl, rfl, trivial⟩ (ih _ h)
        · replace h := sw_ifN hb8 h
          refine ga_zeqN (t := 40) qd20_22 e7 hb8 rfl ?_
          refine go_l qd20_25 rfl ?_
          refine ga_gf (v := .ref (z + (b + 5))) qd20_26 qc20 qf3_28 (sw_rb hn hb) rfl rfl ?_
          refine go_l qd20_29 rfl ?_
          refine go_s qd20_30 rfl ?_
          obtain ⟨T10, e9, h⟩ := sw_bind h
          refine ga_bast qd20_31 (sw_rk hn hb 5 (by decide)) e9 ?_
          refine go_l qd20_32 rfl ?_
          refine ga_gf (v := .ref (z + (b + 4))) qd20_33 qc20 qf3_25 (sw_rb hn hb) rfl rfl ?_
          refine go_l qd20_36 rfl ?_
          refine go_s qd20_37 rfl ?_
          obtain ⟨T12, e11, h⟩ := sw_bind h
          refine ga_iast qd20_38 (sw_rk hn hb 4 (by decide)) e11 ?_
          exact ga_rv qd20_39 qr20 (kr _ (sw_sj h).symm)
      · replace h := sw_ifN hb4 h
        refine ga_cgeN (t := 46) qd20_13 e3 hb4 rfl ?_
        exact sq_weak (L := [none, none]) trivial (kk _ (sw_sj h).symm)
    · replace h := sw_ifN hb2 h
      refine ga_cgeN (t := 46) qd20_7 e1 hb2 rfl ?_
      exact sq_weak (L := [none, none]) trivial (kk _ (sw_sj h).symm)
def w31 (b : Nat) (T : sw_T) : Option (sw_T) :=
  (w31_2 b T sw_N 0).bind fun x13 =>
  sw_el x13 (fun x15 =>
    some (T)
  ) (fun r => some r)
theorem A20 {G : sp_G} {z n : Nat} (hn : 221 ≤ n) {b : Nat} (hb : b ∈ sw_rm) {T : sw_T} {K : sw_K} {res : sw_T} {Q : sp_R → sp_M → Prop} (h : w31 b T = some res) (kk : Q (.inl none) (sw_M z n sw_Ft res K)) : sq_go G 20 0 [some (.ref (z + b)), none] [] (sw_M z n sw_Ft T K) Q := by
  unfold w31 at h
  refine go_s qd20_0 rfl ?_
  refine go_l (L' := [some (.ref (z + b)), some (.int (Int32.ofInt 0))]) (st' := []) qd20_1 rfl ?_
  obtain ⟨x13, e14, h⟩ := sw_bind h
  refine sq_weak (L := [some (.ref (z + b)), some (.int (Int32.ofInt 0))]) ⟨rfl, rfl, trivial⟩ (B20_2 hn hb (res := x13) (fun x15 g16 => ?_) (fun r g16 => ?_) _ _ e14)
  · replace h := sw_elL g16 h
    rw [← sw_sj h] at kk
    exact ga_rv qd20_46 qr20 kk
  · replace h := sw_elR g16 h
    rw [← sw_sj h] at kk
    exact kk
theorem qc19 : sq_c 19 = 3 := by decide +kernel
theorem qk19_85 : sw_ck 19 85 40 0 2 4 3 = true := by decide +kernel
theorem qk19_89 : sw_ck 19 89 9 0 2 2 4 = true := by decide +kernel
theorem qk19_93 : sw_ck 19 93 20 0 0 3 2 = true := by decide +kernel
theorem qr19 : sq_ret 19 = some .int := by decide +kernel
-- 19: SewingPiles$Room.layNewShirt(II)I
def w30 (b : Nat) (T : sw_T) (p1 : Int) (p2 : Int) : Option (Int × sw_T) :=
  (w52 b T p1 p2).bind fun r2 =>
  (w20 b r2.2 p1 r2.1).bind fun r4 =>
  (w31 b r4).bind fun r6 =>
  some ((r2.1, r6))
theorem A19 {G : sp_G} {z n : Nat} (hn : 221 ≤ n) {b : Nat} (hb : b ∈ sw_rm) {T : sw_T} {K : sw_K} {p1 : Int} {p2 : Int} {res : Int × sw_T} {Q : sp_R → sp_M → Prop} (h : w30 b T p1 p2 = some res) (kk : Q (.inl (some (.int (Int32.ofInt res.1)))) (sw_M z n sw_Ft res.2 K)) : sq_go G 19 0 [some (.ref (z + b)), some (.int (Int32.ofInt p1)), some (.int (Int32.ofInt p2)), none] [] (sw_M z n sw_Ft T K) Q := by
  unfold w30 at h
  refine go_l qd19_0 rfl ?_
  refine ga_gf (v := .ref (z + (b + 20))) qd19_1 qc19 qf3_54 (sw_rb hn hb) rfl rfl ?_
  refine go_l qd19_4 rfl ?_
  refine go_l qd19_5 rfl ?_
  obtain ⟨r2, e1, h⟩ := sw_bind h
  refine ga_kv (a := (b + 20)) (as := [.int (Int32.ofInt p1), .int (Int32.ofInt p2)]) (rest := []) qd19_6 qk19_85 (sw_rk hn hb 20 (by decide)) rfl rfl rfl (Nat.le_of_ble_eq_true rfl) (Nat.le_of_ble_eq_true rfl) rfl (A40 hn hb e1 (sw_bkv ?_))
  refine go_l (L' := [some (.ref (z + b)), some (.int (Int32.ofInt p1)), some (.int (Int32.ofInt p2)), some (.int (Int32.ofInt r2.1))]) (st' := []) qd19_9 rfl ?_
  refine go_l qd19_10 rfl ?_
  refine ga_gf (v := .ref (z + (b + 10))) qd19_11 qc19 qf3_47 (sw_rb hn hb) rfl rfl ?_
  refine go_l qd19_14 rfl ?_
  refine go_l qd19_15 rfl ?_
  obtain ⟨r4, e3, h⟩ := sw_bind h
  refine ga_kv (a := (b + 10)) (as := [.int (Int32.ofInt p1), .int (Int32.ofInt r2.1)]) (rest := []) qd19_16 qk19_89 (sw_rk hn hb 10 (by decide)) rfl rfl rfl (Nat.le_of_ble_eq_true rfl) (Nat.le_of_ble_eq_true rfl) rfl (A9 hn hb e3 (sw_bk0 ?_))
  refine go_l qd19_19 rfl ?_
  obtain ⟨r6, e5, h⟩ := sw_bind h
  refine ga_kv (a := b) (as := []) (rest := []) qd19_20 qk19_93 (sw_rb hn hb) rfl rfl rfl (Nat.le_of_ble_eq_true rfl) (Nat.le_of_ble_eq_true rfl) rfl (A20 hn hb e5 (sw_bk0 ?_))
  refine go_l qd19_23 rfl ?_
  rw [← sw_sj h] at kk
  exact ga_ri qd19_24 qr19 kk
theorem qr41 : sq_ret 41 = some .int := by decide +kernel
theorem qc41 : sq_c 41 = 4 := by decide +kernel
-- 41: SewingPiles$Shirts.workOf(I)I
def w53 (b : Nat) (T : sw_T) (p1 : Int) : Option (Int) :=
  (sw_r1 p1).bind fun _u =>
  if p1 < 0 then
    some (0)
  else
    (sw_r2 p1 (T (b + 20) 0)).bind fun _u =>
    if p1 < (T (b + 20) 0) then
      (sw_r2 p1 120).bind fun _u =>
      if p1 < 120 then
        (sw_ld T (b + 21) 120 p1).bind fun v8 =>
        some (v8)
      else
        some (0)
    else
      some (0)
theorem A41 {G : sp_G} {z n : Nat} (hn : 221 ≤ n) {b : Nat} (hb : b ∈ sw_rm) {T : sw_T} {K : sw_K} {p1 : Int} {res : Int} {Q : sp_R → sp_M → Prop} (h : w53 b T p1 = some res) (kk : Q (.inl (some (.int (Int32.ofInt res)))) (sw_M z n sw_Ft T K)) : sq_go G 41 0 [some (.ref (z + (b + 20))), some (.int (Int32.ofInt p1))] [] (sw_M z n sw_Ft T K) Q := by
  unfold w53 at h
  refine go_l qd41_0 rfl ?_
  obtain ⟨_u, e1, h⟩ := sw_bind h
  by_cases hb2 : p1 < 0
  · replace h := sw_ifY hb2 h
    refine ga_zltY (t := 27) qd41_1 e1 hb2 rfl ?_
    refine go_s qd41_27 rfl ?_
    rw [← sw_sj h] at kk
    exact ga_ri qd41_28 qr41 kk
  · replace h := sw_ifN hb2 h
    refine ga_zltN (t := 27) qd41_1 e1 hb2 rfl ?_
    refine go_l qd41_4 rfl ?_
    refine go_l qd41_5 rfl ?_
    refine ga_gf (v := .int (Int32.ofInt (T (b + 20) 0))) qd41_6 qc41 qf4_21 (sw_rk hn hb 20 (by decide)) rfl rfl ?_
    obtain ⟨_u, e3, h⟩ := sw_bind h
    by_cases hb4 : p1 < (T (b + 20) 0)
    · replace h := sw_ifY hb4 h
      refine ga_cgeY (t := 27) qd41_9 e3 hb4 rfl ?_
      refine go_l qd41_12 rfl ?_
      refine ga_k8 qd41_13 rfl ?_
      obtain ⟨_u, e5, h⟩ := sw_bind h
      by_cases hb6 : p1 < 120
      · replace h := sw_ifY hb6 h
        refine ga_cgeY (t := 27) qd41_15 e5 hb6 rfl ?_
        refine go_l qd41_18 rfl ?_
        refine ga_gf (v := .ref (z + (b + 21))) qd41_19 qc41 qf4_9 (sw_rk hn hb 20 (by decide)) rfl rfl ?_
        refine go_l qd41_22 rfl ?_
        obtain ⟨v8, e7, h⟩ := sw_bind h
        refine ga_iald qd41_23 (sw_rk hn hb 21 (by decide)) e7 ?_
        refine ga_jp (t := 28) qd41_24 rfl ?_
        rw [← sw_sj h] at kk
        exact ga_ri qd41_28 qr41 kk
      · replace h := sw_ifN hb6 h
        refine ga_cgeN (t := 27) qd41_15 e5 hb6 rfl ?_
        refine go_s qd41_27 rfl ?_
        rw [← sw_sj h] at kk
        exact ga_ri qd41_28 qr41 kk
    · replace h := sw_ifN hb4 h
      refine ga_cgeN (t := 27) qd41_9 e3 hb4 rfl ?_
      refine go_s qd41_27 rfl ?_
      rw [← sw_sj h] at kk
      exact ga_ri qd41_28 qr41 kk
theorem qr39 : sq_ret 39 = some .boolean := by decide +kernel
theorem qc39 : sq_c 39 = 4 := by decide +kernel
-- 39: SewingPiles$Shirts.has(I)Z
def w51 (b : Nat) (T : sw_T) (p1 : Int) : Option (Int) :=
  (sw_r1 p1).bind fun _u =>
  if p1 < 0 then
    some (0)
  else
    (sw_r2 p1 (T (b + 20) 0)).bind fun _u =>
    if p1 < (T (b + 20) 0) then
      (sw_r2 p1 120).bind fun _u =>
      if p1 < 120 then
        some (1)
      else
        some (0)
    else
      some (0)
theorem A39 {G : sp_G} {z n : Nat} (hn : 221 ≤ n) {b : Nat} (hb : b ∈ sw_rm) {T : sw_T} {K : sw_K} {p1 : Int} {res : Int} {Q : sp_R → sp_M → Prop} (h : w51 b T p1 = some res) (kk : Q (.inl (some (.int (Int32.ofInt res)))) (sw_M z n sw_Ft T K)) : sq_go G 39 0 [some (.ref (z + (b + 20))), some (.int (Int32.ofInt p1))] [] (sw_M z n sw_Ft T K) Q := by
  unfold w51 at h
  refine go_l qd39_0 rfl ?_
  obtain ⟨_u, e1, h⟩ := sw_bind h
  by_cases hb2 : p1 < 0
  · replace h := sw_ifY hb2 h
    refine ga_zltY (t := 22) qd39_1 e1 hb2 rfl ?_
    refine go_s qd39_22 rfl ?_
    rw [← sw_sj h] at kk
    exact ga_rb (u := ()) qd39_23 qr39 (by decide) kk
  · replace h := sw_ifN hb2 h
    refine ga_zltN (t := 22) qd39_1 e1 hb2 rfl ?_
    refine go_l qd39_4 rfl ?_
    refine go_l qd39_5 rfl ?_
    refine ga_gf (v := .int (Int32.ofInt (T (b + 20) 0))) qd39_6 qc39 qf4_21 (sw_rk hn hb 20 (by decide)) rfl rfl ?_
    obtain ⟨_u, e3, h⟩ := sw_bind h
    by_cases hb4 : p1 < (T (b + 20) 0)
    · replace h := sw_ifY hb4 h
      refine ga_cgeY (t := 22) qd39_9 e3 hb4 rfl ?_
      refine go_l qd39_12 rfl ?_
      refine ga_k8 qd39_13 rfl ?_
      obtain ⟨_u, e5, h⟩ := sw_bind h
      by_cases hb6 : p1 < 120
      · replace h := sw_ifY hb6 h
        refine ga_cgeY (t := 22) qd39_15 e5 hb6 rfl ?_
        refine go_s qd39_18 rfl ?_
        refine ga_jp (t := 23) qd39_19 rfl ?_
        rw [← sw_sj h] at kk
        exact ga_rb (u := ()) qd39_23 qr39 (by decide) kk
      · replace h := sw_ifN hb6 h
        refine ga_cgeN (t := 22) qd39_15 e5 hb6 rfl ?_
        refine go_s qd39_22 rfl ?_
        rw [← sw_sj h] at kk
        exact ga_rb (u := ()) qd39_23 qr39 (by decide) kk
    · replace h := sw_ifN hb4 h
      refine ga_cgeN (t := 22) qd39_9 e3 hb4 rfl ?_
      refine go_s qd39_22 rfl ?_
      rw [← sw_sj h] at kk
      exact ga_rb (u := ()) qd39_23 qr39 (by decide) kk
theorem qk42_25 : sw_ck 42 25 39 0 1 4 2 = true := by decide +kernel
theorem qr42 : sq_ret 42 = none := by decide +kernel
theorem qc42 : sq_c 42 = 4 := by decide +kernel
-- 42: SewingPiles$Shirts.setWork(II)V
def w54 (b : Nat) (T : sw_T) (p1 : Int) (p2 : Int) : Option (sw_T) :=
  (w51 b T p1).bind fun r2 =>
  (sw_r1 r2).bind fun _u =>
  if r2 = 0 then
    some (T)
  else
    (sw_st T (b + 21) 120 p1 p2).bind fun T6 =>
    some (T6)
theorem A42 {G : sp_G} {z n : Nat} (hn : 221 ≤ n) {b : Nat} (hb : b ∈ sw_rm) {T : sw_T} {K : sw_K} {p1 : Int} {p2 : Int} {res : sw_T} {Q : sp_R → sp_M → Prop} (h : w54 b T p1 p2 = some res) (kk : Q (.inl none) (sw_M z n sw_Ft res K)) : sq_go G 42 0 [some (.ref (z + (b + 20))), some (.int (Int32.ofInt p1)), some (.int (Int32.ofInt p2))] [] (sw_M z n sw_Ft T K) Q := by
  unfold w54 at h
  refine go_l qd42_0 rfl ?_
  refine go_l qd42_1 rfl ?_
  obtain ⟨r2, e1, h⟩ := sw_bind h
  refine ga_kv (a := (b + 20)) (as := [.int (Int32.ofInt p1)]) (rest := []) qd42_2 qk42_25 (sw_rk hn hb 20 (by decide)) rfl rfl rfl (Nat.le_of_ble_eq_true rfl) (Nat.le_of_ble_eq_true rfl) rfl (A39 hn hb e1 (sw_bkv ?_))
  obtain ⟨_u, e3, h⟩ := sw_bind h
  by_cases hb4 : r2 = 0
  · replace h := sw_ifY hb4 h
    refine ga_zeqY (t := 15) qd42_5 e3 hb4 rfl ?_
    rw [← sw_sj h] at kk
    exact ga_rv qd42_15 qr42 kk
  · replace h := sw_ifN hb4 h
    refine ga_zeqN (t := 15) qd42_5 e3 hb4 rfl ?_
    refine go_l qd42_8 rfl ?_
    refine ga_gf (v := .ref (z + (b + 21))) qd42_9 qc42 qf4_9 (sw_rk hn hb 20 (by decide)) rfl rfl ?_
    refine go_l qd42_12 rfl ?_
    refine go_l qd42_13 rfl ?_
    obtain ⟨T6, e5, h⟩ := sw_bind h
    refine ga_iast qd42_14 (sw_rk hn hb 21 (by decide)) e5 ?_
    rw [← sw_sj h] at kk
    exact ga_rv qd42_15 qr42 kk
theorem qk43_25 : sw_ck 43 25 39 0 1 4 2 = true := by decide +kernel
theorem qr43 : sq_ret 43 = none := by decide +kernel
theorem qc43 : sq_c 43 = 4 := by decide +kernel
-- 43: SewingPiles$Shirts.move(III)V
def w55 (b : Nat) (T : sw_T) (p1 : Int) (p2 : Int) (p3 : Int) : Option (sw_T) :=
  (w51 b T p1).bind fun r2 =>
  (sw_r1 r2).bind fun _u =>
  if r2 = 0 then
    some (T)
  else
    (sw_st T (b + 22) 120 p1 p2).bind fun T6 =>
    (sw_st T6 (b + 23) 120 p1 p3).bind fun T8 =>
    some (T8)
theorem A43 {G : sp_G} {z n : Nat} (hn : 221 ≤ n) {b : Nat} (hb : b ∈ sw_rm) {T : sw_T} {K : sw_K} {p1 : Int} {p2 : Int} {p3 : Int} {res : sw_T} {Q : sp_R → sp_M → Prop} (h : w55 b T p1 p2 p3 = some res) (kk : Q (.inl none) (sw_M z n sw_Ft res K)) : sq_go G 43 0 [some (.ref (z + (b + 20))), some (.int (Int32.ofInt p1)), some (.int (Int32.ofInt p2)), some (.int (Int32.ofInt p3))] [] (sw_M z n sw_Ft T K) Q := by
  unfold w55 at h
  refine go_l qd43_0 rfl ?_
  refine go_l qd43_1 rfl ?_
  obtain ⟨r2, e1, h⟩ := sw_bind h
  refine ga_kv (a := (b + 20)) (as := [.int (Int32.ofInt p1)]) (rest := []) qd43_2 qk43_25 (sw_rk hn hb 20 (by decide)) rfl rfl rfl (Nat.le_of_ble_eq_true rfl) (Nat.le_of_ble_eq_true rfl) rfl (A39 hn hb e1 (sw_bkv ?_))
  obtain ⟨_u, e3, h⟩ := sw_bind h
  by_cases hb4 : r2 = 0
  · replace h := sw_ifY hb4 h
    refine ga_zeqY (t := 22) qd43_5 e3 hb4 rfl ?_
    rw [← sw_sj h] at kk
    exact ga_rv qd43_22 qr43 kk
  · replace h := sw_ifN hb4 h
    refine ga_zeqN (t := 22) qd43_5 e3 hb4 rfl ?_
    refine go_l qd43_8 rfl ?_
    refine ga_gf (v := .ref (z + (b + 22))) qd43_9 qc43 qf4_15 (sw_rk hn hb 20 (by decide)) rfl rfl ?_
    refine go_l qd43_12 rfl ?_
    refine go_l qd43_13 rfl ?_
    obtain ⟨T6, e5, h⟩ := sw_bind h
    refine ga_iast qd43_14 (sw_rk hn hb 22 (by decide)) e5 ?_
    refine go_l qd43_15 rfl ?_
    refine ga_gf (v := .ref (z + (b + 23))) qd43_16 qc43 qf4_18 (sw_rk hn hb 20 (by decide)) rfl rfl ?_
    refine go_l qd43_19 rfl ?_
    refine go_l qd43_20 rfl ?_
    obtain ⟨T8, e7, h⟩ := sw_bind h
    refine ga_iast qd43_21 (sw_rk hn hb 23 (by decide)) e7 ?_
    rw [← sw_sj h] at kk
    exact ga_rv qd43_22 qr43 kk
theorem qk24_74 : sw_ck 24 74 14 0 1 3 2 = true := by decide +kernel
theorem qr24 : sq_ret 24 = none := by decide +kernel
theorem qc24 : sq_c 24 = 3 := by decide +kernel
theorem qk24_123 : sw_ck 24 123 41 0 1 4 2 = true := by decide +kernel
theorem qk24_126 : sw_ck 24 126 42 0 2 4 3 = true := by decide +kernel
theorem qk24_129 : sw_ck 24 129 43 0 3 4 4 = true := by decide +kernel
-- 24: SewingPiles$Room.sew(I)V
def w35_46 (b : Nat) (T : sw_T) (l1 : Int) (l2 : Int) (l3 : Int) (s1 : Int) (s2 : Int) : Option (sw_T) :=
  (w54 b T s1 s2).bind fun r14 =>
  (sw_r1 l3).bind fun _u =>
  if 0 < l3 then
    some (r14)
  else
    (w55 b r14 l2 2 l1).bind fun r18 =>
    (sw_st r18 (b + 3) 7 l1 (-1)).bind fun T20 =>
    (sw_ld T20 (b + 6) 7 l1).bind fun v22 =>
    (sw_st T20 (b + 6) 7 l1 (v22 + 1)).bind fun T24 =>
    some (T24)
theorem B24_46 {G : sp_G} {z n : Nat} (hn : 221 ≤ n) {b : Nat} (hb : b ∈ sw_rm) {T : sw_T} {K : sw_K} {l1 : Int} {l2 : Int} {l3 : Int} {s1 : Int} {s2 : Int} {res : sw_T} {Q : sp_R → sp_M → Prop} (h : w35_46 b T l1 l2 l3 s1 s2 = some res) (kk : Q (.inl none) (sw_M z n sw_Ft res K)) : sq_go G 24 46 [some (.ref (z + b)), some (.int (Int32.ofInt l1)), some (.int (Int32.ofInt l2)), some (.int (Int32.ofInt l3))] [.int (Int32.ofInt s2), .int (Int32.ofInt s1), .ref (z + (b + 20))] (sw_M z n sw_Ft T K) Q := by
  unfold w35_46 at h
  obtain ⟨r14, e13, h⟩ := sw_bind h
  refine ga_kv (a := (b + 20)) (as := [.int (Int32.ofInt s1), .int (Int32.ofInt s2)]) (rest := []) qd24_46 qk24_126 (sw_rk hn hb 20 (by decide)) rfl rfl rfl (Nat.le_of_ble_eq_true rfl) (Nat.le_of_ble_eq_true rfl) rfl (A42 hn hb e13 (sw_bk0 ?_))
  refine go_l qd24_49 rfl ?_
  obtain ⟨_u, e15, h⟩ := sw_bind h
  by_cases hb16 : 0 < l3
  · replace h := sw_ifY hb16 h
    refine ga_zgtY (t := 80) qd24_50 e15 hb16 rfl ?_
    rw [← sw_sj h] at kk
    exact ga_rv qd24_80 qr24 kk
  · replace h := sw_ifN hb16 h
    refine ga_zgtN (t := 80) qd24_50 e15 hb16 rfl ?_
    refine go_l qd24_53 rfl ?_
    refine ga_gf (v := .ref (z + (b + 20))) qd24_54 qc24 qf3_54 (sw_rb hn hb) rfl rfl ?_
    refine go_l qd24_57 rfl ?_
    refine go_s qd24_58 rfl ?_
    refine go_l qd24_59 rfl ?_
    obtain ⟨r18, e17, h⟩ := sw_bind h
    refine ga_kv (a := (b + 20)) (as := [.int (Int32.ofInt l2), .int (Int32.ofInt 2), .int (Int32.ofInt l1)]) (rest := []) qd24_60 qk24_129 (sw_rk hn hb 20 (by decide)) rfl rfl rfl (Nat.le_of_ble_eq_true rfl) (Nat.le_of_ble_eq_true rfl) rfl (A43 hn hb e17 (sw_bk0 ?_))
    refine go_l qd24_63 rfl ?_
    refine ga_gf (v := .ref (z + (b + 3))) qd24_64 qc24 qf3_22 (sw_rb hn hb) rfl rfl ?_
    refine go_l qd24_67 rfl ?_
    refine go_s qd24_68 rfl ?_
    obtain ⟨T20, e19, h⟩ := sw_bind h
    refine ga_iast qd24_69 (sw_rk hn hb 3 (by decide)) e19 ?_
    refine go_l qd24_70 rfl ?_
    refine ga_gf (v := .ref (z + (b + 6))) qd24_71 qc24 qf3_32 (sw_rb hn hb) rfl rfl ?_
    refine go_l qd24_74 rfl ?_
    refine go_s qd24_75 rfl ?_
    obtain ⟨v22, e21, h⟩ := sw_bind h
    refine ga_iald qd24_76 (sw_rk hn hb 6 (by decide)) e21 ?_
    refine go_s qd24_77 rfl ?_
    refine ga_iadd qd24_78 ?_
    obtain ⟨T24, e23, h⟩ := sw_bind h
    refine ga_iast qd24_79 (sw_rk hn hb 6 (by decide)) e23 ?_
    rw [← sw_sj h] at kk
    exact ga_rv qd24_80 qr24 kk
def w35 (b : Nat) (T : sw_T) (p1 : Int) : Option (sw_T) :=
  (w25 b T p1).bind fun r2 =>
  (sw_r1 r2).bind fun _u =>
  if r2 = 0 then
    some (T)
  else
    (sw_ld T (b + 3) 7 p1).bind fun v6 =>
    (w53 b T v6).bind fun r8 =>
    (sw_ld T (b + 2) 7 p1).bind fun v10 =>
    (sw_r1 (r8 - v10)).bind fun _u =>
    if 0 < (r8 - v10) then
      w35_46 b T p1 v6 (r8 - v10) v6 (r8 - v10)
    else
      w35_46 b T p1 v6 (r8 - v10) v6 0
theorem A24 {G : sp_G} {z n : Nat} (hn : 221 ≤ n) {b : Nat} (hb : b ∈ sw_rm) {T : sw_T} {K : sw_K} {p1 : Int} {res : sw_T} {Q : sp_R → sp_M → Prop} (h : w35 b T p1 = some res) (kk : Q (.inl none) (sw_M z n sw_Ft res K)) : sq_go G 24 0 [some (.ref (z + b)), some (.int (Int32.ofInt p1)), none, none] [] (sw_M z n sw_Ft T K) Q := by
  unfold w35 at h
  refine go_l qd24_0 rfl ?_
  refine go_l qd24_1 rfl ?_
  obtain ⟨r2, e1, h⟩ := sw_bind h
  refine ga_kv (a := b) (as := [.int (Int32.ofInt p1)]) (rest := []) qd24_2 qk24_74 (sw_rb hn hb) rfl rfl rfl (Nat.le_of_ble_eq_true rfl) (Nat.le_of_ble_eq_true rfl) rfl (A14 hn hb e1 (sw_bkv ?_))
  obtain ⟨_u, e3, h⟩ := sw_bind h
  by_cases hb4 : r2 = 0
  · replace h := sw_ifY hb4 h
    refine ga_zneY (t := 9) qd24_5 e3 hb4 rfl ?_
    rw [← sw_sj h] at kk
    exact ga_rv qd24_8 qr24 kk
  · replace h := sw_ifN hb4 h
    refine ga_zneN (t := 9) qd24_5 e3 hb4 rfl ?_
    refine go_l qd24_9 rfl ?_
    refine ga_gf (v := .ref (z + (b + 3))) qd24_10 qc24 qf3_22 (sw_rb hn hb) rfl rfl ?_
    refine go_l qd24_13 rfl ?_
    obtain ⟨v6, e5, h⟩ := sw_bind h
    refine ga_iald qd24_14 (sw_rk hn hb 3 (by decide)) e5 ?_
    refine go_l (L' := [some (.ref (z + b)), some (.int (Int32.ofInt p1)), some (.int (Int32.ofInt v6)), none]) (st' := []) qd24_15 rfl ?_
    refine go_l qd24_16 rfl ?_
    refine ga_gf (v := .ref (z + (b + 20))) qd24_17 qc24 qf3_54 (sw_rb hn hb) rfl rfl ?_
    refine go_l qd24_20 rfl ?_
    obtain ⟨r8, e7, h⟩ := sw_bind h
    refine ga_kv (a := (b + 20)) (as := [.int (Int32.ofInt v6)]) (rest := []) qd24_21 qk24_123 (sw_rk hn hb 20 (by decide)) rfl rfl rfl (Nat.le_of_ble_eq_true rfl) (Nat.le_of_ble_eq_true rfl) rfl (A41 hn hb e7 (sw_bkv ?_))
    refine go_l qd24_24 rfl ?_
    refine ga_gf (v := .ref (z + (b + 2))) qd24_25 qc24 qf3_19 (sw_rb hn hb) rfl rfl ?_
    refine go_l qd24_28 rfl ?_
    obtain ⟨v10, e9, h⟩ := sw_bind h
    refine ga_iald qd24_29 (sw_rk hn hb 2 (by decide)) e9 ?_
    refine ga_isub qd24_30 ?_
    refine go_l (L' := [some (.ref (z + b)), some (.int (Int32.ofInt p1)), some (.int (Int32.ofInt v6)), some (.int (Int32.ofInt (r8 - v10)))]) (st' := []) qd24_31 rfl ?_
    refine go_l qd24_32 rfl ?_
    refine ga_gf (v := .ref (z + (b + 20))) qd24_33 qc24 qf3_54 (sw_rb hn hb) rfl rfl ?_
    refine go_l qd24_36 rfl ?_
    refine go_l qd24_37 rfl ?_
    obtain ⟨_u, e11, h⟩ := sw_bind h
    by_cases hb12 : 0 < (r8 - v10)
    · replace h := sw_ifY hb12 h
      refine ga_zleY (t := 45) qd24_38 e11 hb12 rfl ?_
      refine go_l qd24_41 rfl ?_
      refine ga_jp (t := 46) qd24_42 rfl ?_
      exact sq_weak (L := [some (.ref (z + b)), some (.int (Int32.ofInt p1)), some (.int (Int32.ofInt v6)), some (.int (Int32.ofInt (r8 - v10)))]) ⟨rfl, rfl, rfl, rfl, trivial⟩ (B24_46 hn hb h kk)
    · replace h := sw_ifN hb12 h
      refine ga_zleN (t := 45) qd24_38 e11 hb12 rfl ?_
      refine go_s qd24_45 rfl ?_
      exact sq_weak (L := [some (.ref (z + b)), some (.int (Int32.ofInt p1)), some (.int (Int32.ofInt v6)), some (.int (Int32.ofInt (r8 - v10)))]) ⟨rfl, rfl, rfl, rfl, trivial⟩ (B24_46 hn hb h kk)
