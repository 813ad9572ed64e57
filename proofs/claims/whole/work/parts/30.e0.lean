/-! ===== the methods as functions over tables ===== -/
theorem qf0_11 : (sp_fd sp_flT 0 11).or (sp_fd sp_fnT 0 11) = some (0, 0) := by decide +kernel
theorem qc3 : sq_c 3 = 0 := by decide +kernel
theorem qg0_18 : sp_fd sp_flT 0 18 = some (0, 1) := by decide +kernel
theorem qr3 : sq_ret 3 = none := by decide +kernel
-- 3: SewingPiles$History.dropOldest()V
def w3_9 (q2 : Nat) : Nat → sw_T → Int → Option (sw_T)
  | 0, _, _ => none
  | m + 1, T, l2 =>
    (sw_r2 l2 6).bind fun _u =>
    if l2 < 6 then
      (sw_lr T 74 6 l2).bind fun q6 =>
      (sw_sr T 74 6 (l2 - 1) q6).bind fun T8 =>
      w3_9 q2 m T8 (l2 + 1)
    else
      some (T)
theorem B3_9 {G : sp_G} {z n : Nat} (hn : 228 ≤ n) {q2 : Nat} (hq2 : q2 ∈ sw_rm) {K : sw_K} {res : sw_T} {Q : sp_R → sp_M → Prop} (kk : sq_go G 3 35 [some (.ref (z + 73)), some (.ref (z + q2)), none] [] (sw_M z n sw_Ft res K) Q) : ∀ (m : Nat) (T : sw_T) (l2 : Int), w3_9 q2 m T l2 = some res → sq_go G 3 9 [some (.ref (z + 73)), some (.ref (z + q2)), some (.int (Int32.ofInt l2))] [] (sw_M z n sw_Ft T K) Q := by
  intro m
  induction m with
  | zero => intro T l2 h; cases h
  | succ m ih =>
    intro T l2 h
    rw [w3_9] at h
    refine go_l qd3_9 rfl ?_
    refine ga_k8 qd3_10 rfl ?_
    obtain ⟨_u, e3, h⟩ := sw_bind h
    by_cases hb4 : l2 < 6
    · replace h := sw_ifY hb4 h
      refine ga_cgeY (t := 35) qd3_12 e3 hb4 rfl ?_
      refine go_l qd3_15 rfl ?_
      refine ga_gf (v := .ref (z + 74)) qd3_16 qc3 qf0_11 (sw_sl hn (by decide)) rfl rfl ?_
      refine go_l qd3_19 rfl ?_
      refine go_s qd3_20 rfl ?_
      refine ga_isub qd3_21 ?_
      refine go_l qd3_22 rfl ?_
      refine ga_gf (v := .ref (z + 74)) qd3_23 qc3 qf0_11 (sw_sl hn (by decide)) rfl rfl ?_
      refine go_l qd3_26 rfl ?_
      obtain ⟨q6, e5, h⟩ := sw_bind h
      refine ga_lrm qd3_27 (sw_sl hn (by decide)) e5 (fun hq6 => ?_)
      obtain ⟨T8, e7, h⟩ := sw_bind h
      refine ga_srm qd3_28 (sw_sl hn (by decide)) (sw_rb hn hq6) (sw_rn hq6) e7 ?_
      refine ga_ii (L' := [some (.ref (z + 73)), some (.ref (z + q2)), some (.int (Int32.ofInt (l2 + 1)))]) qd3_29 rfl rfl ?_
      refine ga_jp (t := 9) qd3_32 rfl ?_
      exact sq_weak (L := [some (.ref (z + 73)), some (.ref (z + q2)), some (.int (Int32.ofInt (l2 + 1)))]) ⟨rfl, rfl, rfl, trivial⟩ (ih _ _ h)
    · replace h := sw_ifN hb4 h
      refine ga_cgeN (t := 35) qd3_12 e3 hb4 rfl ?_
      rw [← sw_sj h] at kk
      exact sq_weak (L := [some (.ref (z + 73)), some (.ref (z + q2)), none]) ⟨rfl, rfl, trivial⟩ kk
def w3 (T : sw_T) : Option (sw_T) :=
  (sw_lr T 74 6 0).bind fun q2 =>
  (w3_9 q2 sw_N T 1).bind fun x9 =>
  (sw_sr x9 74 6 5 q2).bind fun T12 =>
  (sw_pf T12 73 1 5).bind fun T13 =>
  some (T13)
theorem A3 {G : sp_G} {z n : Nat} (hn : 228 ≤ n) {T : sw_T} {K : sw_K} {res : sw_T} {Q : sp_R → sp_M → Prop} (h : w3 T = some res) (kk : Q (.inl none) (sw_M z n sw_Ft res K)) : sq_go G 3 0 [some (.ref (z + 73)), none, none] [] (sw_M z n sw_Ft T K) Q := by
  unfold w3 at h
  refine go_l qd3_0 rfl ?_
  refine ga_gf (v := .ref (z + 74)) qd3_1 qc3 qf0_11 (sw_sl hn (by decide)) rfl rfl ?_
  refine go_s qd3_4 rfl ?_
  obtain ⟨q2, e1, h⟩ := sw_bind h
  refine ga_lrm qd3_5 (sw_sl hn (by decide)) e1 (fun hq2 => ?_)
  refine go_l (L' := [some (.ref (z + 73)), some (.ref (z + q2)), none]) (st' := []) qd3_6 rfl ?_
  refine go_s qd3_7 rfl ?_
  refine go_l (L' := [some (.ref (z + 73)), some (.ref (z + q2)), some (.int (Int32.ofInt 1))]) (st' := []) qd3_8 rfl ?_
  obtain ⟨x9, e10, h⟩ := sw_bind h
  refine sq_weak (L := [some (.ref (z + 73)), some (.ref (z + q2)), some (.int (Int32.ofInt 1))]) ⟨rfl, rfl, rfl, trivial⟩ (B3_9 hn hq2 (res := x9) ?_ _ _ _ e10)
  refine go_l qd3_35 rfl ?_
  refine ga_gf (v := .ref (z + 74)) qd3_36 qc3 qf0_11 (sw_sl hn (by decide)) rfl rfl ?_
  refine go_s qd3_39 rfl ?_
  refine go_l qd3_40 rfl ?_
  obtain ⟨T12, e11, h⟩ := sw_bind h
  refine ga_srm qd3_41 (sw_sl hn (by decide)) (sw_rb hn hq2) (sw_rn hq2) e11 ?_
  refine go_l qd3_42 rfl ?_
  refine go_s qd3_43 rfl ?_
  obtain ⟨T13, e14, h⟩ := sw_bind h
  refine ga_pfi qd3_44 qc3 qg0_18 (sw_sl hn (by decide)) rfl qi0_1 e14 ?_
  rw [← sw_sj h] at kk
  exact ga_rv qd3_47 qr3 kk
theorem qf2_11 : (sp_fd sp_flT 2 11).or (sp_fd sp_fnT 2 11) = some (2, 0) := by decide +kernel
theorem qc17 : sq_c 17 = 2 := by decide +kernel
theorem qf2_19 : (sp_fd sp_flT 2 19).or (sp_fd sp_fnT 2 19) = some (2, 1) := by decide +kernel
theorem qr17 : sq_ret 17 = none := by decide +kernel
-- 17: SewingPiles$Piles.copyFrom(LSewingPiles$Piles;)V
def w17_22 (b : Nat) (c : Nat) (l2 : Int) : Nat → sw_T → Int → Option (sw_T)
  | 0, _, _ => none
  | m + 1, T, l3 =>
    (sw_r2 l3 16).bind fun _u =>
    if l3 < 16 then
      (sw_rw 7 l2).bind fun u10 =>
      (sw_rw 7 l2).bind fun u12 =>
      (sw_ld T (c + 12 + 1 + u12) 16 l3).bind fun v14 =>
      (sw_st T (b + 12 + 1 + u10) 16 l3 v14).bind fun T16 =>
      w17_22 b c l2 m T16 (l3 + 1)
    else
      some (T)
theorem B17_22 {G : sp_G} {z n : Nat} (hn : 228 ≤ n) {b : Nat} (hb : b ∈ sw_rm) {c : Nat} (hc : c ∈ sw_rm) {l2 : Int} {K : sw_K} {res : sw_T} {Q : sp_R → sp_M → Prop} (kk : sq_go G 17 50 [some (.ref (z + (b + 10))), some (.ref (z + (c + 10))), some (.int (Int32.ofInt l2)), none] [] (sw_M z n sw_Ft res K) Q) : ∀ (m : Nat) (T : sw_T) (l3 : Int), w17_22 b c l2 m T l3 = some res → sq_go G 17 22 [some (.ref (z + (b + 10))), some (.ref (z + (c + 10))), some (.int (Int32.ofInt l2)), some (.int (Int32.ofInt l3))] [] (sw_M z n sw_Ft T K) Q := by
  intro m
  induction m with
  | zero => intro T l3 h; cases h
  | succ m ih =>
    intro T l3 h
    rw [w17_22] at h
    refine go_l qd17_22 rfl ?_
    refine ga_k8 qd17_23 rfl ?_
    obtain ⟨_u, e7, h⟩ := sw_bind h
    by_cases hb8 : l3 < 16
    · replace h := sw_ifY hb8 h
      refine ga_cgeY (t := 50) qd17_25 e7 hb8 rfl ?_
      refine go_l qd17_28 rfl ?_
      refine ga_gf (v := .ref (z + (b + 12))) qd17_29 qc17 qf2_19 (sw_rk hn hb 10 (by decide)) rfl rfl ?_
      refine go_l qd17_32 rfl ?_
      obtain ⟨u10, e9, h⟩ := sw_bind h
      refine ga_row qd17_33 (sw_rk hn hb 12 (by decide)) e9 ?_
      refine go_l qd17_34 rfl ?_
      refine go_l qd17_35 rfl ?_
      refine ga_gf (v := .ref (z + (c + 12))) qd17_36 qc17 qf2_19 (sw_rk hn hc 10 (by decide)) rfl rfl ?_
      refine go_l qd17_39 rfl ?_
      obtain ⟨u12, e11, h⟩ := sw_bind h
      refine ga_row qd17_40 (sw_rk hn hc 12 (by decide)) e11 ?_
      refine go_l qd17_41 rfl ?_
      obtain ⟨v14, e13, h⟩ := sw_bind h
      refine ga_iald qd17_42 (sw_rr hn hc e11) e13 ?_
      obtain ⟨T16, e15, h⟩ := sw_bind h
      refine ga_iast qd17_43 (sw_rr hn hb e9) e15 ?_
      refine ga_ii (L' := [some (.ref (z + (b + 10))), some (.ref (z + (c + 10))), some (.int (Int32.ofInt l2)), some (.int (Int32.ofInt (l3 + 1)))]) qd17_44 rfl rfl ?_
      refine ga_jp (t := 22) qd17_47 rfl ?_
      exact sq_weak (L := [some (.ref (z + (b + 10))), some (.ref (z + (c + 10))), some (.int (Int32.ofInt l2)), some (.int (Int32.ofInt (l3 + 1)))]) ⟨rfl, rfl, rfl, rfl, trivial⟩ (ih _ _ h)
    · replace h := sw_ifN hb8 h
      refine ga_cgeN (t := 50) qd17_25 e7 hb8 rfl ?_
      rw [← sw_sj h] at kk
      exact sq_weak (L := [some (.ref (z + (b + 10))), some (.ref (z + (c + 10))), some (.int (Int32.ofInt l2)), none]) ⟨rfl, rfl, rfl, trivial⟩ kk
def w17_2 (b : Nat) (c : Nat) : Nat → sw_T → Int → Option (sw_T)
  | 0, _, _ => none
  | m + 1, T, l2 =>
    (sw_r2 l2 7).bind fun _u =>
    if l2 < 7 then
      (sw_ld T (c + 11) 7 l2).bind fun v4 =>
      (sw_st T (b + 11) 7 l2 v4).bind fun T6 =>
      (w17_22 b c l2 sw_N T6 0).bind fun x17 =>
      w17_2 b c m x17 (l2 + 1)
    else
      some (T)
theorem B17_2 {G : sp_G} {z n : Nat} (hn : 228 ≤ n) {b : Nat} (hb : b ∈ sw_rm) {c : Nat} (hc : c ∈ sw_rm) {K : sw_K} {res : sw_T} {Q : sp_R → sp_M → Prop} (kk : sq_go G 17 56 [none, none, none, none] [] (sw_M z n sw_Ft res K) Q) : ∀ (m : Nat) (T : sw_T) (l2 : Int), w17_2 b c m T l2 = some res → sq_go G 17 2 [some (.ref (z + (b + 10))), some (.ref (z + (c + 10))), some (.int (Int32.ofInt l2)), none] [] (sw_M z n sw_Ft T K) Q := by
  intro m
  induction m with
  | zero => intro T l2 h; cases h
  | succ m ih =>
    intro T l2 h
    rw [w17_2] at h
    refine go_l qd17_2 rfl ?_
    refine ga_k8 qd17_3 rfl ?_
    obtain ⟨_u, e1, h⟩ := sw_bind h
    by_cases hb2 : l2 < 7
    · replace h := sw_ifY hb2 h
      refine ga_cgeY (t := 56) qd17_5 e1 hb2 rfl ?_
      refine go_l qd17_8 rfl ?_
      refine ga_gf (v := .ref (z + (b + 11))) qd17_9 qc17 qf2_11 (sw_rk hn hb 10 (by decide)) rfl rfl ?_
      refine go_l qd17_12 rfl ?_
      refine go_l qd17_13 rfl ?_
      refine ga_gf (v := .ref (z + (c + 11))) qd17_14 qc17 qf2_11 (sw_rk hn hc 10 (by decide)) rfl rfl ?_
      refine go_l qd17_17 rfl ?_
      obtain ⟨v4, e3, h⟩ := sw_bind h
      refine ga_iald qd17_18 (sw_rk hn hc 11 (by decide)) e3 ?_
      obtain ⟨T6, e5, h⟩ := sw_bind h
      refine ga_iast qd17_19 (sw_rk hn hb 11 (by decide)) e5 ?_
      refine go_s qd17_20 rfl ?_
      refine go_l (L' := [some (.ref (z + (b + 10))), some (.ref (z + (c + 10))), some (.int (Int32.ofInt l2)), some (.int (Int32.ofInt 0))]) (st' := []) qd17_21 rfl ?_
      obtain ⟨x17, e18, h⟩ := sw_bind h
      refine sq_weak (L := [some (.ref (z + (b + 10))), some (.ref (z + (c + 10))), some (.int (Int32.ofInt l2)), some (.int (Int32.ofInt 0))]) ⟨rfl, rfl, rfl, rfl, trivial⟩ (B17_22 hn hb hc (res := x17) ?_ _ _ _ e18)
      refine ga_ii (L' := [some (.ref (z + (b + 10))), some (.ref (z + (c + 10))), some (.int (Int32.ofInt (l2 + 1))), none]) qd17_50 rfl rfl ?_
      refine ga_jp (t := 2) qd17_53 rfl ?_
      exact sq_weak (L := [some (.ref (z + (b + 10))), some (.ref (z + (c + 10))), some (.int (Int32.ofInt (l2 + 1))), none]) ⟨rfl, rfl, rfl, trivial⟩ (ih _ _ h)
    · replace h := sw_ifN hb2 h
      refine ga_cgeN (t := 56) qd17_5 e1 hb2 rfl ?_
      rw [← sw_sj h] at kk
      exact sq_weak (L := [none, none, none, none]) trivial kk
def w17 (b : Nat) (c : Nat) (T : sw_T) : Option (sw_T) :=
  (w17_2 b c sw_N T 0).bind fun x19 =>
  some (x19)
theorem A17 {G : sp_G} {z n : Nat} (hn : 228 ≤ n) {b : Nat} (hb : b ∈ sw_rm) {c : Nat} (hc : c ∈ sw_rm) {T : sw_T} {K : sw_K} {res : sw_T} {Q : sp_R → sp_M → Prop} (h : w17 b c T = some res) (kk : Q (.inl none) (sw_M z n sw_Ft res K)) : sq_go G 17 0 [some (.ref (z + (b + 10))), some (.ref (z + (c + 10))), none, none] [] (sw_M z n sw_Ft T K) Q := by
  unfold w17 at h
  refine go_s qd17_0 rfl ?_
  refine go_l (L' := [some (.ref (z + (b + 10))), some (.ref (z + (c + 10))), some (.int (Int32.ofInt 0)), none]) (st' := []) qd17_1 rfl ?_
  obtain ⟨x19, e20, h⟩ := sw_bind h
  refine sq_weak (L := [some (.ref (z + (b + 10))), some (.ref (z + (c + 10))), some (.int (Int32.ofInt 0)), none]) ⟨rfl, rfl, rfl, trivial⟩ (B17_2 hn hb hc (res := x19) ?_ _ _ _ e20)
  rw [← sw_sj h] at kk
  exact ga_rv qd17_56 qr17 kk
theorem qf4_21 : (sp_fd sp_flT 4 21).or (sp_fd sp_fnT 4 21) = some (4, 0) := by decide +kernel
theorem qc50 : sq_c 50 = 4 := by decide +kernel
theorem qg4_21 : sp_fd sp_flT 4 21 = some (4, 0) := by decide +kernel
theorem qf4_9 : (sp_fd sp_flT 4 9).or (sp_fd sp_fnT 4 9) = some (4, 1) := by decide +kernel
theorem qf4_15 : (sp_fd sp_flT 4 15).or (sp_fd sp_fnT 4 15) = some (4, 2) := by decide +kernel
theorem qf4_18 : (sp_fd sp_flT 4 18).or (sp_fd sp_fnT 4 18) = some (4, 3) := by decide +kernel
theorem qr50 : sq_ret 50 = none := by decide +kernel
-- 50: SewingPiles$Shirts.copyFrom(LSewingPiles$Shirts;)V
def w50_10 (b : Nat) (c : Nat) : Nat → sw_T → Int → Option (sw_T)
  | 0, _, _ => none
  | m + 1, T, l2 =>
    (sw_r2 l2 (T (b + 20) 0)).bind fun _u =>
    if l2 < (T (b + 20) 0) then
      (sw_r2 l2 120).bind fun _u =>
      if l2 < 120 then
        (sw_ld T (c + 21) 120 l2).bind fun v8 =>
        (sw_st T (b + 21) 120 l2 v8).bind fun T10 =>
        (sw_ld T10 (c + 22) 120 l2).bind fun v12 =>
        (sw_st T10 (b + 22) 120 l2 v12).bind fun T14 =>
        (sw_ld T14 (c + 23) 120 l2).bind fun v16 =>
        (sw_st T14 (b + 23) 120 l2 v16).bind fun T18 =>
        w50_10 b c m T18 (l2 + 1)
      else
        some (T)
    else
      some (T)
theorem B50_10 {G : sp_G} {z n : Nat} (hn : 228 ≤ n) {b : Nat} (hb : b ∈ sw_rm) {c : Nat} (hc : c ∈ sw_rm) {K : sw_K} {res : sw_T} {Q : sp_R → sp_M → Prop} (kk : sq_go G 50 66 [none, none, none] [] (sw_M z n sw_Ft res K) Q) : ∀ (m : Nat) (T : sw_T) (l2 : Int), w50_10 b c m T l2 = some res → sq_go G 50 10 [some (.ref (z + (b + 20))), some (.ref (z + (c + 20))), some (.int (Int32.ofInt l2))] [] (sw_M z n sw_Ft T K) Q := by
  intro m
  induction m with
  | zero => intro T l2 h; cases h
  | succ m ih =>
    intro T l2 h
    rw [w50_10] at h
    refine go_l qd50_10 rfl ?_
    refine go_l qd50_11 rfl ?_
    refine ga_gf (v := .int (Int32.ofInt (T (b + 20) 0))) qd50_12 qc50 qf4_21 (sw_rk hn hb 20 (by decide)) rfl rfl ?_
    obtain ⟨_u, e3, h⟩ := sw_bind h
    by_cases hb4 : l2 < (T (b + 20) 0)
    · replace h := sw_ifY hb4 h
      refine ga_cgeY (t := 66) qd50_15 e3 hb4 rfl ?_
      refine go_l qd50_18 rfl ?_
      refine ga_k8 qd50_19 rfl ?_
      obtain ⟨_u, e5, h⟩ := sw_bind h
      by_cases hb6 : l2 < 120
      · replace h := sw_ifY hb6 h
        refine ga_cgeY (t := 66) qd50_21 e5 hb6 rfl ?_
        refine go_l qd50_24 rfl ?_
        refine ga_gf (v := .ref (z + (b + 21))) qd50_25 qc50 qf4_9 (sw_rk hn hb 20 (by decide)) rfl rfl ?_
        refine go_l qd50_28 rfl ?_
        refine go_l qd50_29 rfl ?_
        refine ga_gf (v := .ref (z + (c + 21))) qd50_30 qc50 qf4_9 (sw_rk hn hc 20 (by decide)) rfl rfl ?_
        refine go_l qd50_33 rfl ?_
        obtain ⟨v8, e7, h⟩ := sw_bind h
        refine ga_iald qd50_34 (sw_rk hn hc 21 (by decide)) e7 ?_
        obtain ⟨T10, e9, h⟩ := sw_bind h
        refine ga_iast qd50_35 (sw_rk hn hb 21 (by decide)) e9 ?_
        refine go_l qd50_36 rfl ?_
        refine ga_gf (v := .ref (z + (b + 22))) qd50_37 qc50 qf4_15 (sw_rk hn hb 20 (by decide)) rfl rfl ?_
        refine go_l qd50_40 rfl ?_
        refine go_l qd50_41 rfl ?_
        refine ga_gf (v := .ref (z + (c + 22))) qd50_42 qc50 qf4_15 (sw_rk hn hc 20 (by decide)) rfl rfl ?_
        refine go_l qd50_45 rfl ?_
        obtain ⟨v12, e11, h⟩ := sw_bind h
        refine ga_iald qd50_46 (sw_rk hn hc 22 (by decide)) e11 ?_
        obtain ⟨T14, e13, h⟩ := sw_bind h
        refine ga_iast qd50_47 (sw_rk hn hb 22 (by decide)) e13 ?_
        refine go_l qd50_48 rfl ?_
        refine ga_gf (v := .ref (z + (b + 23))) qd50_49 qc50 qf4_18 (sw_rk hn hb 20 (by decide)) rfl rfl ?_
        refine go_l qd50_52 rfl ?_
        refine go_l qd50_53 rfl ?_
        refine ga_gf (v := .ref (z + (c + 23))) qd50_54 qc50 qf4_18 (sw_rk hn hc 20 (by decide)) rfl rfl ?_
        refine go_l qd50_57 rfl ?_
        obtain ⟨v16, e15, h⟩ := sw_bind h
        refine ga_iald qd50_58 (sw_rk hn hc 23 (by decide)) e15 ?_
        obtain ⟨T18, e17, h⟩ := sw_bind h
        refine ga_iast qd50_59 (sw_rk hn hb 23 (by decide)) e17 ?_
        refine ga_ii (L' := [some (.ref (z + (b + 20))), some (.ref (z + (c + 20))), some (.int (Int32.ofInt (l2 + 1)))]) qd50_60 rfl rfl ?_
        refine ga_jp (t := 10) qd50_63 rfl ?_
        exact sq_weak (L := [some (.ref (z + (b + 20))), some (.ref (z + (c + 20))), some (.int (Int32.ofInt (l2 + 1)))]) ⟨rfl, rfl, rfl, trivial⟩ (ih _ _ h)
      · replace h := sw_ifN hb6 h
        refine ga_cgeN (t := 66) qd50_21 e5 hb6 rfl ?_
        rw [← sw_sj h] at kk
        exact sq_weak (L := [none, none, none]) trivial kk
    · replace h := sw_ifN hb4 h
      refine ga_cgeN (t := 66) qd50_15 e3 hb4 rfl ?_
      rw [← sw_sj h] at kk
      exact sq_weak (L := [none, none, none]) trivial kk
def w50 (b : Nat) (c : Nat) (T : sw_T) : Option (sw_T) :=
  (sw_pf T (b + 20) 0 (T (c + 20) 0)).bind fun T1 =>
  (w50_10 b c sw_N T1 0).bind fun x19 =>
  some (x19)
theorem A50 {G : sp_G} {z n : Nat} (hn : 228 ≤ n) {b : Nat} (hb : b ∈ sw_rm) {c : Nat} (hc : c ∈ sw_rm) {T : sw_T} {K : sw_K} {res : sw_T} {Q : sp_R → sp_M → Prop} (h : w50 b c T = some res) (kk : Q (.inl none) (sw_M z n sw_Ft res K)) : sq_go G 50 0 [some (.ref (z + (b + 20))), some (.ref (z + (c + 20))), none] [] (sw_M z n sw_Ft T K) Q := by
  unfold w50 at h
  refine go_l qd50_0 rfl ?_
  refine go_l qd50_1 rfl ?_
  refine ga_gf (v := .int (Int32.ofInt (T (c + 20) 0))) qd50_2 qc50 qf4_21 (sw_rk hn hc 20 (by decide)) rfl rfl ?_
  obtain ⟨T1, e2, h⟩ := sw_bind h
  refine ga_pfi qd50_5 qc50 qg4_21 (sw_rk hn hb 20 (by decide)) rfl qi4_0 e2 ?_
  refine go_s qd50_8 rfl ?_
  refine go_l (L' := [some (.ref (z + (b + 20))), some (.ref (z + (c + 20))), some (.int (Int32.ofInt 0))]) (st' := []) qd50_9 rfl ?_
  obtain ⟨x19, e20, h⟩ := sw_bind h
  refine sq_weak (L := [some (.ref (z + (b + 20))), some (.ref (z + (c + 20))), some (.int (Int32.ofInt 0))]) ⟨rfl, rfl, rfl, trivial⟩ (B50_10 hn hb hc (res := x19) ?_ _ _ _ e20)
  rw [← sw_sj h] at kk
  exact ga_rv qd50_66 qr50 kk
theorem qf3_58 : (sp_fd sp_flT 3 58).or (sp_fd sp_fnT 3 58) = some (3, 0) := by decide +kernel
theorem qc24 : sq_c 24 = 3 := by decide +kernel
theorem qg3_58 : sp_fd sp_flT 3 58 = some (3, 0) := by decide +kernel
theorem qf3_9 : (sp_fd sp_flT 3 9).or (sp_fd sp_fnT 3 9) = some (3, 1) := by decide +kernel
theorem qg3_9 : sp_fd sp_flT 3 9 = some (3, 1) := by decide +kernel
theorem qf3_61 : (sp_fd sp_flT 3 61).or (sp_fd sp_fnT 3 61) = some (3, 2) := by decide +kernel
theorem qg3_61 : sp_fd sp_flT 3 61 = some (3, 2) := by decide +kernel
theorem qf3_64 : (sp_fd sp_flT 3 64).or (sp_fd sp_fnT 3 64) = some (3, 3) := by decide +kernel
theorem qg3_64 : sp_fd sp_flT 3 64 = some (3, 3) := by decide +kernel
theorem qf3_15 : (sp_fd sp_flT 3 15).or (sp_fd sp_fnT 3 15) = some (3, 4) := by decide +kernel
theorem qf3_19 : (sp_fd sp_flT 3 19).or (sp_fd sp_fnT 3 19) = some (3, 5) := by decide +kernel
theorem qf3_22 : (sp_fd sp_flT 3 22).or (sp_fd sp_fnT 3 22) = some (3, 6) := by decide +kernel
theorem qf3_25 : (sp_fd sp_flT 3 25).or (sp_fd sp_fnT 3 25) = some (3, 7) := by decide +kernel
theorem qf3_28 : (sp_fd sp_flT 3 28).or (sp_fd sp_fnT 3 28) = some (3, 8) := by decide +kernel
theorem qf3_32 : (sp_fd sp_flT 3 32).or (sp_fd sp_fnT 3 32) = some (3, 9) := by decide +kernel
theorem qf3_35 : (sp_fd sp_flT 3 35).or (sp_fd sp_fnT 3 35) = some (3, 10) := by decide +kernel
theorem qf3_38 : (sp_fd sp_flT 3 38).or (sp_fd sp_fnT 3 38) = some (3, 11) := by decide +kernel
theorem qf3_41 : (sp_fd sp_flT 3 41).or (sp_fd sp_fnT 3 41) = some (3, 12) := by decide +kernel
theorem qf3_47 : (sp_fd sp_flT 3 47).or (sp_fd sp_fnT 3 47) = some (3, 13) := by decide +kernel
theorem qk24_67 : sw_ck 24 67 17 0 1 2 4 = true := by decide +kernel
theorem qf3_54 : (sp_fd sp_flT 3 54).or (sp_fd sp_fnT 3 54) = some (3, 14) := by decide +kernel
theorem qk24_71 : sw_ck 24 71 50 0 1 4 3 = true := by decide +kernel
theorem qr24 : sq_ret 24 = none := by decide +kernel
-- 24: SewingPiles$Room.copyFrom(LSewingPiles$Room;)V
def w24_34 (b : Nat) (c : Nat) : Nat → sw_T → Int → Option (sw_T)
  | 0, _, _ => none
  | m + 1, T, l2 =>
    (sw_r2 l2 3).bind fun _u =>
    if l2 < 3 then
      (sw_ld T (c + 1) 3 l2).bind fun v12 =>
      (sw_st T (b + 1) 3 l2 v12).bind fun T14 =>
      w24_34 b c m T14 (l2 + 1)
    else
      some (T)
theorem B24_34 {G : sp_G} {z n : Nat} (hn : 228 ≤ n) {b : Nat} (hb : b ∈ sw_rm) {c : Nat} (hc : c ∈ sw_rm) {K : sw_K} {res : sw_T} {Q : sp_R → sp_M → Prop} (kk : sq_go G 24 57 [some (.ref (z + b)), some (.ref (z + c)), none] [] (sw_M z n sw_Ft res K) Q) : ∀ (m : Nat) (T : sw_T) (l2 : Int), w24_34 b c m T l2 = some res → sq_go G 24 34 [some (.ref (z + b)), some (.ref (z + c)), some (.int (Int32.ofInt l2))] [] (sw_M z n sw_Ft T K) Q := by
  intro m
  induction m with
  | zero => intro T l2 h; cases h
  | succ m ih =>
    intro T l2 h
    rw [w24_34] at h
    refine go_l qd24_34 rfl ?_
    refine go_s qd24_35 rfl ?_
    obtain ⟨_u, e9, h⟩ := sw_bind h
    by_cases hb10 : l2 < 3
    · replace h := sw_ifY hb10 h
      refine ga_cgeY (t := 57) qd24_36 e9 hb10 rfl ?_
      refine go_l qd24_39 rfl ?_
      refine ga_gf (v := .ref (z + (b + 1))) qd24_40 qc24 qf3_15 (sw_rb hn hb) rfl rfl ?_
      refine go_l qd24_43 rfl ?_
      refine go_l qd24_44 rfl ?_
      refine ga_gf (v := .ref (z + (c + 1))) qd24_45 qc24 qf3_15 (sw_rb hn hc) rfl rfl ?_
      refine go_l qd24_48 rfl ?_
      obtain ⟨v12, e11, h⟩ := sw_bind h
      refine ga_iald qd24_49 (sw_rk hn hc 1 (by decide)) e11 ?_
      obtain ⟨T14, e13, h⟩ := sw_bind h
      refine ga_iast qd24_50 (sw_rk hn hb 1 (by decide)) e13 ?_
      refine ga_ii (L' := [some (.ref (z + b)), some (.ref (z + c)), some (.int (Int32.ofInt (l2 + 1)))]) qd24_51 rfl rfl ?_
      refine ga_jp (t := 34) qd24_54 rfl ?_
      exact sq_weak (L := [some (.ref (z + b)), some (.ref (z + c)), some (.int (Int32.ofInt (l2 + 1)))]) ⟨rfl, rfl, rfl, trivial⟩ (ih _ _ h)
    · replace h := sw_ifN hb10 h
      refine ga_cgeN (t := 57) qd24_36 e9 hb10 rfl ?_
      rw [← sw_sj h] at kk
      exact sq_weak (L := [some (.ref (z + b)), some (.ref (z + c)), none]) ⟨rfl, rfl, trivial⟩ kk
def w24_59 (b : Nat) (c : Nat) : Nat → sw_T → Int → Option (sw_T)
  | 0, _, _ => none
  | m + 1, T, l2 =>
    (sw_r2 l2 7).bind fun _u =>
    if l2 < 7 then
      (sw_ld T (c + 2) 7 l2).bind fun v20 =>
      (sw_st T (b + 2) 7 l2 v20).bind fun T22 =>
      (sw_ld T22 (c + 3) 7 l2).bind fun v24 =>
      (sw_st T22 (b + 3) 7 l2 v24).bind fun T26 =>
      (sw_ld T26 (c + 4) 7 l2).bind fun v28 =>
      (sw_st T26 (b + 4) 7 l2 v28).bind fun T30 =>
      (sw_ld T30 (c + 5) 7 l2).bind fun v32 =>
      (sw_sb T30 (b + 5) 7 l2 v32).bind fun T34 =>
      (sw_ld T34 (c + 6) 7 l2).bind fun v36 =>
      (sw_st T34 (b + 6) 7 l2 v36).bind fun T38 =>
      (sw_ld T38 (c + 7) 7 l2).bind fun v40 =>
      (sw_st T38 (b + 7) 7 l2 v40).bind fun T42 =>
      (sw_ld T42 (c + 8) 7 l2).bind fun v44 =>
      (sw_st T42 (b + 8) 7 l2 v44).bind fun T46 =>
      (sw_ld T46 (c + 9) 7 l2).bind fun v48 =>
      (sw_st T46 (b + 9) 7 l2 v48).bind fun T50 =>
      w24_59 b c m T50 (l2 + 1)
    else
      some (T)
theorem B24_59 {G : sp_G} {z n : Nat} (hn : 228 ≤ n) {b : Nat} (hb : b ∈ sw_rm) {c : Nat} (hc : c ∈ sw_rm) {K : sw_K} {res : sw_T} {Q : sp_R → sp_M → Prop} (kk : sq_go G 24 167 [some (.ref (z + b)), some (.ref (z + c)), none] [] (sw_M z n sw_Ft res K) Q) : ∀ (m : Nat) (T : sw_T) (l2 : Int), w24_59 b c m T l2 = some res → sq_go G 24 59 [some (.ref (z + b)), some (.ref (z + c)), some (.int (Int32.ofInt l2))] [] (sw_M z n sw_Ft T K) Q := by
  intro m
  induction m with
  | zero => intro T l2 h; cases h
  | succ m ih =>
    intro T l2 h
    rw [w24_59] at h
    refine go_l qd24_59 rfl ?_
    refine ga_k8 qd24_60 rfl ?_
    obtain ⟨_u, e17, h⟩ := sw_bind h
    by_cases hb18 : l2 < 7
    · replace h := sw_ifY hb18 h
      refine ga_cgeY (t := 167) qd24_62 e17 hb18 rfl ?_
      refine go_l qd24_65 rfl ?_
      refine ga_gf (v := .ref (z + (b + 2))) qd24_66 qc24 qf3_19 (sw_rb hn hb) rfl rfl ?_
      refine go_l qd24_69 rfl ?_
      refine go_l qd24_70 rfl ?_
      refine ga_gf (v := .ref (z + (c + 2))) qd24_71 qc24 qf3_19 (sw_rb hn hc) rfl rfl ?_
      refine go_l qd24_74 rfl ?_
      obtain ⟨v20, e19, h⟩ := sw_bind h
      refine ga_iald qd24_75 (sw_rk hn hc 2 (by decide)) e19 ?_
      obtain ⟨T22, e21, h⟩ := sw_bind h
      refine ga_iast qd24_76 (sw_rk hn hb 2 (by decide)) e21 ?_
      refine go_l qd24_77 rfl ?_
      refine ga_gf (v := .ref (z + (b + 3))) qd24_78 qc24 qf3_22 (sw_rb hn hb) rfl rfl ?_
      refine go_l qd24_81 rfl ?_
      refine go_l qd24_82 rfl ?_
      refine ga_gf (v := .ref (z + (c + 3))) qd24_83 qc24 qf3_22 (sw_rb hn hc) rfl rfl ?_
      refine go_l qd24_86 rfl ?_
      obtain ⟨v24, e23, h⟩ := sw_bind h
      refine ga_iald qd24_87 (sw_rk hn hc 3 (by decide)) e23 ?_
      obtain ⟨T26, e25, h⟩ := sw_bind h
      refine ga_iast qd24_88 (sw_rk hn hb 3 (by decide)) e25 ?_
      refine go_l qd24_89 rfl ?_
      refine ga_gf (v := .ref (z + (b + 4))) qd24_90 qc24 qf3_25 (sw_rb hn hb) rfl rfl ?_
      refine go_l qd24_93 rfl ?_
      refine go_l qd24_94 rfl ?_
      refine ga_gf (v := .ref (z + (c + 4))) qd24_95 qc24 qf3_25 (sw_rb hn hc) rfl rfl ?_
      refine go_l qd24_98 rfl ?_
      obtain ⟨v28, e27, h⟩ := sw_bind h
      refine ga_iald qd24_99 (sw_rk hn hc 4 (by decide)) e27 ?_
      obtain ⟨T30, e29, h⟩ := sw_bind h
      refine ga_iast qd24_100 (sw_rk hn hb 4 (by decide)) e29 ?_
      refine go_l qd24_101 rfl ?_
      refine ga_gf (v := .ref (z + (b + 5))) qd24_102 qc24 qf3_28 (sw_rb hn hb) rfl rfl ?_
      refine go_l qd24_105 rfl ?_
      refine go_l qd24_106 rfl ?_
      refine ga_gf (v := .ref (z + (c + 5))) qd24_107 qc24 qf3_28 (sw_rb hn hc) rfl rfl ?_
      refine go_l qd24_110 rfl ?_
      obtain ⟨v32, e31, h⟩ := sw_bind h
      refine ga_bald qd24_111 (sw_rk hn hc 5 (by decide)) e31 ?_
      obtain ⟨T34, e33, h⟩ := sw_bind h
      refine ga_bast qd24_112 (sw_rk hn hb 5 (by decide)) e33 ?_
      refine go_l qd24_113 rfl ?_
      refine ga_gf (v := .ref (z + (b + 6))) qd24_114 qc24 qf3_32 (sw_rb hn hb) rfl rfl ?_
      refine go_l qd24_117 rfl ?_
      refine go_l qd24_118 rfl ?_
      refine ga_gf (v := .ref (z + (c + 6))) qd24_119 qc24 qf3_32 (sw_rb hn hc) rfl rfl ?_
      refine go_l qd24_122 rfl ?_
      obtain ⟨v36, e35, h⟩ := sw_bind h
      refine ga_iald qd24_123 (sw_rk hn hc 6 (by decide)) e35 ?_
      obtain ⟨T38, e37, h⟩ := sw_bind h
      refine ga_iast qd24_124 (sw_rk hn hb 6 (by decide)) e37 ?_
      refine go_l qd24_125 rfl ?_
      refine ga_gf (v := .ref (z + (b + 7))) qd24_126 qc24 qf3_35 (sw_rb hn hb) rfl rfl ?_
      refine go_l qd24_129 rfl ?_
      refine go_l qd24_130 rfl ?_
      refine ga_gf (v := .ref (z + (c + 7))) qd24_131 qc24 qf3_35 (sw_rb hn hc) rfl rfl ?_
      refine go_l qd24_134 rfl ?_
      obtain ⟨v40, e39, h⟩ := sw_bind h
      refine ga_iald qd24_135 (sw_rk hn hc 7 (by decide)) e39 ?_
      obtain ⟨T42, e41, h⟩ := sw_bind h
      refine ga_iast qd24_136 (sw_rk hn hb 7 (by decide)) e41 ?_
      refine go_l qd24_137 rfl ?_
      refine ga_gf (v := .ref (z + (b + 8))) qd24_138 qc24 qf3_38 (sw_rb hn hb) rfl rfl ?_
      refine go_l qd24_141 rfl ?_
      refine go_l qd24_142 rfl ?_
      refine ga_gf (v := .ref (z + (c + 8))) qd24_143 qc24 qf3_38 (sw_rb hn hc) rfl rfl ?_
      refine go_l qd24_146 rfl ?_
      obtain ⟨v44, e43, h⟩ := sw_bind h
      refine ga_iald qd24_147 (sw_rk hn hc 8 (by decide)) e43 ?_
      obtain ⟨T46, e45, h⟩ := sw_bind h
      refine ga_iast qd24_148 (sw_rk hn hb 8 (by decide)) e45 ?_
      refine go_l qd24_149 rfl ?_
      refine ga_gf (v := .ref (z + (b + 9))) qd24_150 qc24 qf3_41 (sw_rb hn hb) rfl rfl ?_
      refine go_l qd24_153 rfl ?_
      refine go_l qd24_154 rfl ?_
      refine ga_gf (v := .ref (z + (c + 9))) qd24_155 qc24 qf3_41 (sw_rb hn hc) rfl rfl ?_
      refine go_l qd24_158 rfl ?_
      obtain ⟨v48, e47, h⟩ := sw_bind h
      refine ga_iald qd24_159 (sw_rk hn hc 9 (by decide)) e47 ?_
      obtain ⟨T50, e49, h⟩ := sw_bind h
      refine ga_iast qd24_160 (sw_rk hn hb 9 (by decide)) e49 ?_
      refine ga_ii (L' := [some (.ref (z + b)), some (.ref (z + c)), some (.int (Int32.ofInt (l2 + 1)))]) qd24_161 rfl rfl ?_
      refine ga_jp (t := 59) qd24_164 rfl ?_
      exact sq_weak (L := [some (.ref (z + b)), some (.ref (z + c)), some (.int (Int32.ofInt (l2 + 1)))]) ⟨rfl, rfl, rfl, trivial⟩ (ih _ _ h)
    · replace h := sw_ifN hb18 h
      refine ga_cgeN (t := 167) qd24_62 e17 hb18 rfl ?_
      rw [← sw_sj h] at kk
      exact sq_weak (L := [some (.ref (z + b)), some (.ref (z + c)), none]) ⟨rfl, rfl, trivial⟩ kk
def w24 (b : Nat) (c : Nat) (T : sw_T) : Option (sw_T) :=
  (sw_pf T b 0 (T c 0)).bind fun T1 =>
  (sw_pf T1 b 1 (T1 c 1)).bind fun T3 =>
  (sw_pf T3 b 2 (T3 c 2)).bind fun T5 =>
  (sw_pf T5 b 3 (T5 c 3)).bind fun T7 =>
  (w24_34 b c sw_N T7 0).bind fun x15 =>
  (w24_59 b c sw_N x15 0).bind fun x51 =>
  (w17 b c x51).bind fun r54 =>
  (w50 b c r54).bind fun r56 =>
  some (r56)
theorem A24 {G : sp_G} {z n : Nat} (hn : 228 ≤ n) {b : Nat} (hb : b ∈ sw_rm) {c : Nat} (hc : c ∈ sw_rm) {T : sw_T} {K : sw_K} {res : sw_T} {Q : sp_R → sp_M → Prop} (h : w24 b c T = some res) (kk : Q (.inl none) (sw_M z n sw_Ft res K)) : sq_go G 24 0 [some (.ref (z + b)), some (.ref (z + c)), none] [] (sw_M z n sw_Ft T K) Q := by
  unfold w24 at h
  refine go_l qd24_0 rfl ?_
  refine go_l qd24_1 rfl ?_
  refine ga_gf (v := .int (Int32.ofInt (T c 0))) qd24_2 qc24 qf3_58 (sw_rb hn hc) rfl rfl ?_
  obtain ⟨T1, e2, h⟩ := sw_bind h
  refine ga_pfi qd24_5 qc24 qg3_58 (sw_rb hn hb) rfl qi3_0 e2 ?_
  refine go_l qd24_8 rfl ?_
  refine go_l qd24_9 rfl ?_
  refine ga_gf (v := .int (Int32.ofInt (T1 c 1))) qd24_10 qc24 qf3_9 (sw_rb hn hc) rfl rfl ?_
  obtain ⟨T3, e4, h⟩ := sw_bind h
  refine ga_pfi qd24_13 qc24 qg3_9 (sw_rb hn hb) rfl qi3_1 e4 ?_
  refine go_l qd24_16 rfl ?_
  refine go_l qd24_17 rfl ?_
  refine ga_gf (v := .int (Int32.ofInt (T3 c 2))) qd24_18 qc24 qf3_61 (sw_rb hn hc) rfl rfl ?_
  obtain ⟨T5, e6, h⟩ := sw_bind h
  refine ga_pfi qd24_21 qc24 qg3_61 (sw_rb hn hb) rfl qi3_2 e6 ?_
  refine go_l qd24_24 rfl ?_
  refine go_l qd24_25 rfl ?_
  refine ga_gf (v := .int (Int32.ofInt (T5 c 3))) qd24_26 qc24 qf3_64 (sw_rb hn hc) rfl rfl ?_
  obtain ⟨T7, e8, h⟩ := sw_bind h
  refine ga_pfi qd24_29 qc24 qg3_64 (sw_rb hn hb) rfl qi3_3 e8 ?_
  refine go_s qd24_32 rfl ?_
  refine go_l (L' := [some (.ref (z + b)), some (.ref (z + c)), some (.int (Int32.ofInt 0))]) (st' := []) qd24_33 rfl ?_
  obtain ⟨x15, e16, h⟩ := sw_bind h
  refine sq_weak (L := [some (.ref (z + b)), some (.ref (z + c)), some (.int (Int32.ofInt 0))]) ⟨rfl, rfl, rfl, trivial⟩ (B24_34 hn hb hc (res := x15) ?_ _ _ _ e16)
  refine go_s qd24_57 rfl ?_
  refine go_l (L' := [some (.ref (z + b)), some (.ref (z + c)), some (.int (Int32.ofInt 0))]) (st' := []) qd24_58 rfl ?_
  obtain ⟨x51, e52, h⟩ := sw_bind h
  refine sq_weak (L := [some (.ref (z + b)), some (.ref (z + c)), some (.int (Int32.ofInt 0))]) ⟨rfl, rfl, rfl, trivial⟩ (B24_59 hn hb hc (res := x51) ?_ _ _ _ e52)
  refine go_l qd24_167 rfl ?_
  refine ga_gf (v := .ref (z + (b + 10))) qd24_168 qc24 qf3_47 (sw_rb hn hb) rfl rfl ?_
  refine go_l qd24_171 rfl ?_
  refine ga_gf (v := .ref (z + (c + 10))) qd24_172 qc24 qf3_47 (sw_rb hn hc) rfl rfl ?_
  obtain ⟨r54, e53, h⟩ := sw_bind h
  refine ga_kv (a := (b + 10)) (as := [.ref (z + (c + 10))]) (rest := []) qd24_175 qk24_67 (sw_rk hn hb 10 (by decide)) rfl rfl rfl (Nat.le_of_ble_eq_true rfl) (Nat.le_of_ble_eq_true rfl) rfl (A17 hn hb hc e53 (sw_bk0 ?_))
  refine go_l qd24_178 rfl ?_
  refine ga_gf (v := .ref (z + (b + 20))) qd24_179 qc24 qf3_54 (sw_rb hn hb) rfl rfl ?_
  refine go_l qd24_182 rfl ?_
  refine ga_gf (v := .ref (z + (c + 20))) qd24_183 qc24 qf3_54 (sw_rb hn hc) rfl rfl ?_
  obtain ⟨r56, e55, h⟩ := sw_bind h
  refine ga_kv (a := (b + 20)) (as := [.ref (z + (c + 20))]) (rest := []) qd24_186 qk24_71 (sw_rk hn hb 20 (by decide)) rfl rfl rfl (Nat.le_of_ble_eq_true rfl) (Nat.le_of_ble_eq_true rfl) rfl (A50 hn hb hc e55 (sw_bk0 ?_))
  rw [← sw_sj h] at kk
  exact ga_rv qd24_189 qr24 kk
theorem qf0_18 : (sp_fd sp_flT 0 18).or (sp_fd sp_fnT 0 18) = some (0, 1) := by decide +kernel
theorem qc1 : sq_c 1 = 0 := by decide +kernel
theorem qk1_25 : sw_ck 1 25 24 0 1 3 3 = true := by decide +kernel
theorem qr1 : sq_ret 1 = none := by decide +kernel
theorem qk1_22 : sw_ck 1 22 3 0 0 0 3 = true := by decide +kernel
-- 1: SewingPiles$History.save(LSewingPiles$Room;)V
def w1_13 (b : Nat) (T : sw_T) : Option (sw_T) :=
  (sw_lr T 74 6 (T 73 1)).bind fun q4 =>
  (w24 q4 b T).bind fun r6 =>
  (sw_pf r6 73 1 ((r6 73 1) + 1)).bind fun T7 =>
  some (T7)
theorem B1_13 {G : sp_G} {z n : Nat} (hn : 228 ≤ n) {b : Nat} (hb : b ∈ sw_rm) {T : sw_T} {K : sw_K} {res : sw_T} {Q : sp_R → sp_M → Prop} (h : w1_13 b T = some res) (kk : Q (.inl none) (sw_M z n sw_Ft res K)) : sq_go G 1 13 [some (.ref (z + 73)), some (.ref (z + b)), none] [] (sw_M z n sw_Ft T K) Q := by
  unfold w1_13 at h
  refine go_l qd1_13 rfl ?_
  refine ga_gf (v := .ref (z + 74)) qd1_14 qc1 qf0_11 (sw_sl hn (by decide)) rfl rfl ?_
  refine go_l qd1_17 rfl ?_
  refine ga_gf (v := .int (Int32.ofInt (T 73 1))) qd1_18 qc1 qf0_18 (sw_sl hn (by decide)) rfl rfl ?_
  obtain ⟨q4, e3, h⟩ := sw_bind h
  refine ga_lrm qd1_21 (sw_sl hn (by decide)) e3 (fun hq4 => ?_)
  refine go_l (L' := [some (.ref (z + 73)), some (.ref (z + b)), some (.ref (z + q4))]) (st' := []) qd1_22 rfl ?_
  refine go_l qd1_23 rfl ?_
  refine go_j qd1_24 rfl ?_
  refine go_l qd1_27 rfl ?_
  refine go_l qd1_28 rfl ?_
  obtain ⟨r6, e5, h⟩ := sw_bind h
  refine ga_kv (a := q4) (as := [.ref (z + b)]) (rest := []) qd1_29 qk1_25 (sw_rb hn hq4) rfl rfl rfl (Nat.le_of_ble_eq_true rfl) (Nat.le_of_ble_eq_true rfl) rfl (A24 hn hq4 hb e5 (sw_bk0 ?_))
  refine go_l qd1_32 rfl ?_
  refine go_s qd1_33 rfl ?_
  refine ga_gf (v := .int (Int32.ofInt (r6 73 1))) qd1_34 qc1 qf0_18 (sw_sl hn (by decide)) rfl rfl ?_
  refine go_s qd1_37 rfl ?_
  refine ga_iadd qd1_38 ?_
  obtain ⟨T7, e8, h⟩ := sw_bind h
  refine ga_pfi qd1_39 qc1 qg0_18 (sw_sl hn (by decide)) rfl qi0_1 e8 ?_
  rw [← sw_sj h] at kk
  exact ga_rv qd1_42 qr1 kk
def w1 (b : Nat) (T : sw_T) : Option (sw_T) :=
  (sw_r2 (T 73 1) 6).bind fun _u =>
  if (T 73 1) < 6 then
    w1_13 b T
  else
    (w3 T).bind fun r10 =>
    w1_13 b r10
theorem A1 {G : sp_G} {z n : Nat} (hn : 228 ≤ n) {b : Nat} (hb : b ∈ sw_rm) {T : sw_T} {K : sw_K} {res : sw_T} {Q : sp_R → sp_M → Prop} (h : w1 b T = some res) (kk : Q (.inl none) (sw_M z n sw_Ft res K)) : sq_go G 1 0 [some (.ref (z + 73)), some (.ref (z + b)), none] [] (sw_M z n sw_Ft T K) Q := by
  unfold w1 at h
  refine go_l qd1_0 rfl ?_
  refine ga_gf (v := .int (Int32.ofInt (T 73 1))) qd1_1 qc1 qf0_18 (sw_sl hn (by decide)) rfl rfl ?_
  refine ga_k8 qd1_4 rfl ?_
  obtain ⟨_u, e1, h⟩ := sw_bind h
  by_cases hb2 : (T 73 1) < 6
  · replace h := sw_ifY hb2 h
    refine ga_cltY (t := 13) qd1_6 e1 hb2 rfl ?_
    exact sq_weak (L := [some (.ref (z + 73)), some (.ref (z + b)), none]) ⟨rfl, rfl, trivial⟩ (B1_13 hn hb h kk)
  · replace h := sw_ifN hb2 h
    refine ga_cltN (t := 13) qd1_6 e1 hb2 rfl ?_
    refine go_l qd1_9 rfl ?_
    obtain ⟨r10, e9, h⟩ := sw_bind h
    refine ga_kv (a := 73) (as := []) (rest := []) qd1_10 qk1_22 (sw_sl hn (by decide)) rfl rfl rfl (Nat.le_of_ble_eq_true rfl) (Nat.le_of_ble_eq_true rfl) rfl (A3 hn e9 (sw_bk0 ?_))
    exact sq_weak (L := [some (.ref (z + 73)), some (.ref (z + b)), none]) ⟨rfl, rfl, trivial⟩ (B1_13 hn hb h kk)
theorem qc2 : sq_c 2 = 0 := by decide +kernel
theorem qr2 : sq_ret 2 = none := by decide +kernel
theorem qk2_25 : sw_ck 2 25 24 0 1 3 3 = true := by decide +kernel
-- 2: SewingPiles$History.restoreLatest(LSewingPiles$Room;)V
def w2 (b : Nat) (T : sw_T) : Option (sw_T) :=
  (sw_r2 (T 73 1) 1).bind fun _u =>
  if (T 73 1) < 1 then
    some (T)
  else
    (sw_r2 (T 73 1) 6).bind fun _u =>
    if 6 < (T 73 1) then
      some (T)
    else
      (sw_pf T 73 1 ((T 73 1) - 1)).bind fun T5 =>
      (sw_lr T5 74 6 (T5 73 1)).bind fun q8 =>
      (w24 b q8 T5).bind fun r10 =>
      some (r10)
theorem A2 {G : sp_G} {z n : Nat} (hn : 228 ≤ n) {b : Nat} (hb : b ∈ sw_rm) {T : sw_T} {K : sw_K} {res : sw_T} {Q : sp_R → sp_M → Prop} (h : w2 b T = some res) (kk : Q (.inl none) (sw_M z n sw_Ft res K)) : sq_go G 2 0 [some (.ref (z + 73)), some (.ref (z + b)), none] [] (sw_M z n sw_Ft T K) Q := by
  unfold w2 at h
  refine go_l qd2_0 rfl ?_
  refine ga_gf (v := .int (Int32.ofInt (T 73 1))) qd2_1 qc2 qf0_18 (sw_sl hn (by decide)) rfl rfl ?_
  refine go_s qd2_4 rfl ?_
  obtain ⟨_u, e1, h⟩ := sw_bind h
  by_cases hb2 : (T 73 1) < 1
  · replace h := sw_ifY hb2 h
    refine ga_cltY (t := 17) qd2_5 e1 hb2 rfl ?_
    rw [← sw_sj h] at kk
    exact ga_rv qd2_17 qr2 kk
  · replace h := sw_ifN hb2 h
    refine ga_cltN (t := 17) qd2_5 e1 hb2 rfl ?_
    refine go_l qd2_8 rfl ?_
    refine ga_gf (v := .int (Int32.ofInt (T 73 1))) qd2_9 qc2 qf0_18 (sw_sl hn (by decide)) rfl rfl ?_
    refine ga_k8 qd2_12 rfl ?_
    obtain ⟨_u, e3, h⟩ := sw_bind h
    by_cases hb4 : 6 < (T 73 1)
    · replace h := sw_ifY hb4 h
      refine ga_cleY (t := 18) qd2_14 e3 hb4 rfl ?_
      rw [← sw_sj h] at kk
      exact ga_rv qd2_17 qr2 kk
    · replace h := sw_ifN hb4 h
      refine ga_cleN (t := 18) qd2_14 e3 hb4 rfl ?_
      refine go_l qd2_18 rfl ?_
      refine go_s qd2_19 rfl ?_
      refine ga_gf (v := .int (Int32.ofInt (T 73 1))) qd2_20 qc2 qf0_18 (sw_sl hn (by decide)) rfl rfl ?_
      refine go_s qd2_23 rfl ?_
      refine ga_isub qd2_24 ?_
      obtain ⟨T5, e6, h⟩ := sw_bind h
      refine ga_pfi qd2_25 qc2 qg0_18 (sw_sl hn (by decide)) rfl qi0_1 e6 ?_
      refine go_l qd2_28 rfl ?_
      refine ga_gf (v := .ref (z + 74)) qd2_29 qc2 qf0_11 (sw_sl hn (by decide)) rfl rfl ?_
      refine go_l qd2_32 rfl ?_
      refine ga_gf (v := .int (Int32.ofInt (T5 73 1))) qd2_33 qc2 qf0_18 (sw_sl hn (by decide)) rfl rfl ?_
      obtain ⟨q8, e7, h⟩ := sw_bind h
      refine ga_lrm qd2_36 (sw_sl hn (by decide)) e7 (fun hq8 => ?_)
      refine go_l (L' := [some (.ref (z + 73)), some (.ref (z + b)), some (.ref (z + q8))]) (st' := []) qd2_37 rfl ?_
      refine go_l qd2_38 rfl ?_
      refine go_j qd2_39 rfl ?_
      refine go_l qd2_42 rfl ?_
      refine go_l qd2_43 rfl ?_
      obtain ⟨r10, e9, h⟩ := sw_bind h
      refine ga_kv (a := b) (as := [.ref (z + q8)]) (rest := []) qd2_44 qk2_25 (sw_rb hn hb) rfl rfl rfl (Nat.le_of_ble_eq_true rfl) (Nat.le_of_ble_eq_true rfl) rfl (A24 hn hb hq8 e9 (sw_bk0 ?_))
      rw [← sw_sj h] at kk
      exact ga_rv qd2_47 qr2 kk
theorem qf1_15 : (sp_fd sp_flT 1 15).or (sp_fd sp_fnT 1 15) = some (1, 1) := by decide +kernel
theorem qc5 : sq_c 5 = 1 := by decide +kernel
theorem qf1_9 : (sp_fd sp_flT 1 9).or (sp_fd sp_fnT 1 9) = some (1, 0) := by decide +kernel
theorem qg1_15 : sp_fd sp_flT 1 15 = some (1, 1) := by decide +kernel
theorem qr5 : sq_ret 5 = none := by decide +kernel
-- 5: SewingPiles$OrderText.add(I)V
def w5 (T : sw_T) (p1 : Int) : Option (sw_T) :=
  (sw_r2 (T 219 1) 60).bind fun _u =>
  if (T 219 1) < 60 then
    (sw_c16 p1).bind fun _u =>
    (sw_sc T 220 60 (T 219 1) p1).bind fun T5 =>
    (sw_pf T5 219 1 ((T5 219 1) + 1)).bind fun T6 =>
    some (T6)
  else
    some (T)
theorem A5 {G : sp_G} {z n : Nat} (hn : 228 ≤ n) {T : sw_T} {K : sw_K} {p1 : Int} {res : sw_T} {Q : sp_R → sp_M → Prop} (h : w5 T p1 = some res) (kk : Q (.inl none) (sw_M z n sw_Ft res K)) : sq_go G 5 0 [some (.ref (z + 219)), some (.int (Int32.ofInt p1))] [] (sw_M z n sw_Ft T K) Q := by
  unfold w5 at h
  refine go_l qd5_0 rfl ?_
  refine ga_gf (v := .int (Int32.ofInt (T 219 1))) qd5_1 qc5 qf1_15 (sw_sl hn (by decide)) rfl rfl ?_
  refine ga_k8 qd5_4 rfl ?_
  obtain ⟨_u, e1, h⟩ := sw_bind h
  by_cases hb2 : (T 219 1) < 60
  · replace h := sw_ifY hb2 h
    refine ga_cgeY (t := 30) qd5_6 e1 hb2 rfl ?_
    refine go_l qd5_9 rfl ?_
    refine ga_gf (v := .ref (z + 220)) qd5_10 qc5 qf1_9 (sw_sl hn (by decide)) rfl rfl ?_
    refine go_l qd5_13 rfl ?_
    refine ga_gf (v := .int (Int32.ofInt (T 219 1))) qd5_14 qc5 qf1_15 (sw_sl hn (by decide)) rfl rfl ?_
    refine go_l qd5_17 rfl ?_
    obtain ⟨_u, e3, h⟩ := sw_bind h
    refine ga_i2c qd5_18 e3 ?_
    obtain ⟨T5, e4, h⟩ := sw_bind h
    refine ga_cast qd5_19 (sw_sl hn (by decide)) e4 ?_
    refine go_l qd5_20 rfl ?_
    refine go_s qd5_21 rfl ?_
    refine ga_gf (v := .int (Int32.ofInt (T5 219 1))) qd5_22 qc5 qf1_15 (sw_sl hn (by decide)) rfl rfl ?_
    refine go_s qd5_25 rfl ?_
    refine ga_iadd qd5_26 ?_
    obtain ⟨T6, e7, h⟩ := sw_bind h
    refine ga_pfi qd5_27 qc5 qg1_15 (sw_sl hn (by decide)) rfl qi1_1 e7 ?_
    rw [← sw_sj h] at kk
    exact ga_rv qd5_30 qr5 kk
  · replace h := sw_ifN hb2 h
    refine ga_cgeN (t := 30) qd5_6 e1 hb2 rfl ?_
    rw [← sw_sj h] at kk
    exact ga_rv qd5_30 qr5 kk
theorem qc6 : sq_c 6 = 1 := by decide +kernel
theorem qr6 : sq_ret 6 = some .int := by decide +kernel
-- 6: SewingPiles$OrderText.empty()I
def w6 (T : sw_T) : Option (Int × sw_T) :=
  (sw_pf T 219 1 0).bind fun T1 =>
  some (((T 219 1), T1))
theorem A6 {G : sp_G} {z n : Nat} (hn : 228 ≤ n) {T : sw_T} {K : sw_K} {res : Int × sw_T} {Q : sp_R → sp_M → Prop} (h : w6 T = some res) (kk : Q (.inl (some (.int (Int32.ofInt res.1)))) (sw_M z n sw_Ft res.2 K)) : sq_go G 6 0 [some (.ref (z + 219)), none] [] (sw_M z n sw_Ft T K) Q := by
  unfold w6 at h
  refine go_l qd6_0 rfl ?_
  refine ga_gf (v := .int (Int32.ofInt (T 219 1))) qd6_1 qc6 qf1_15 (sw_sl hn (by decide)) rfl rfl ?_
  refine go_l (L' := [some (.ref (z + 219)), some (.int (Int32.ofInt (T 219 1)))]) (st' := []) qd6_4 rfl ?_
  refine go_l qd6_5 rfl ?_
  refine go_s qd6_6 rfl ?_
  obtain ⟨T1, e2, h⟩ := sw_bind h
  refine ga_pfi qd6_7 qc6 qg1_15 (sw_sl hn (by decide)) rfl qi1_1 e2 ?_
  refine go_l qd6_10 rfl ?_
  rw [← sw_sj h] at kk
  exact ga_ri qd6_11 qr6 kk
theorem qr7 : sq_ret 7 = some .int := by decide +kernel
theorem qc7 : sq_c 7 = 1 := by decide +kernel
-- 7: SewingPiles$OrderText.codeAt(I)I
def w7 (T : sw_T) (p1 : Int) : Option (Int) :=
  (sw_r1 p1).bind fun _u =>
  if p1 < 0 then
    some (0)
  else
    (sw_r2 p1 (T 219 1)).bind fun _u =>
    if p1 < (T 219 1) then
      (sw_ld T 220 60 p1).bind fun v6 =>
      some (v6)
    else
      some (0)
theorem A7 {G : sp_G} {z n : Nat} (hn : 228 ≤ n) {T : sw_T} {K : sw_K} {p1 : Int} {res : Int} {Q : sp_R → sp_M → Prop} (h : w7 T p1 = some res) (kk : Q (.inl (some (.int (Int32.ofInt res)))) (sw_M z n sw_Ft T K)) : sq_go G 7 0 [some (.ref (z + 219)), some (.int (Int32.ofInt p1))] [] (sw_M z n sw_Ft T K) Q := by
  unfold w7 at h
  refine go_l qd7_0 rfl ?_
  obtain ⟨_u, e1, h⟩ := sw_bind h
  by_cases hb2 : p1 < 0
  · replace h := sw_ifY hb2 h
    refine ga_zltY (t := 21) qd7_1 e1 hb2 rfl ?_
    refine go_s qd7_21 rfl ?_
    rw [← sw_sj h] at kk
    exact ga_ri qd7_22 qr7 kk
  · replace h := sw_ifN hb2 h
    refine ga_zltN (t := 21) qd7_1 e1 hb2 rfl ?_
    refine go_l qd7_4 rfl ?_
    refine go_l qd7_5 rfl ?_
    refine ga_gf (v := .int (Int32.ofInt (T 219 1))) qd7_6 qc7 qf1_15 (sw_sl hn (by decide)) rfl rfl ?_
    obtain ⟨_u, e3, h⟩ := sw_bind h
    by_cases hb4 : p1 < (T 219 1)
    · replace h := sw_ifY hb4 h
      refine ga_cgeY (t := 21) qd7_9 e3 hb4 rfl ?_
      refine go_l qd7_12 rfl ?_
      refine ga_gf (v := .ref (z + 220)) qd7_13 qc7 qf1_9 (sw_sl hn (by decide)) rfl rfl ?_
      refine go_l qd7_16 rfl ?_
      obtain ⟨v6, e5, h⟩ := sw_bind h
      refine ga_cald qd7_17 (sw_sl hn (by decide)) e5 ?_
      refine ga_jp (t := 22) qd7_18 rfl ?_
      rw [← sw_sj h] at kk
      exact ga_ri qd7_22 qr7 kk
    · replace h := sw_ifN hb4 h
      refine ga_cgeN (t := 21) qd7_9 e3 hb4 rfl ?_
      refine go_s qd7_21 rfl ?_
      rw [← sw_sj h] at kk
      exact ga_ri qd7_22 qr7 kk
theorem qr13 : sq_ret 13 = some .int := by decide +kernel
-- 13: SewingPiles$OrderText.stateBehindKind(I)I
def w13 (T : sw_T) (p0 : Int) : Option (Int) :=
  (sw_r1 p0).bind fun _u =>
  if p0 = 108 then
    some (1)
  else
  if p0 = 109 then
    some (3)
  else
  if p0 = 118 then
    some (5)
  else
  if p0 = 119 then
    some (7)
  else
    some ((-1))
theorem A13 {G : sp_G} {z n : Nat} (hn : 228 ≤ n) {T : sw_T} {K : sw_K} {p0 : Int} {res : Int} {Q : sp_R → sp_M → Prop} (h : w13 T p0 = some res) (kk : Q (.inl (some (.int (Int32.ofInt res)))) (sw_M z n sw_Ft T K)) : sq_go G 13 0 [some (.int (Int32.ofInt p0))] [] (sw_M z n sw_Ft T K) Q := by
  unfold w13 at h
  refine go_l qd13_0 rfl ?_
  obtain ⟨_u, e1, h⟩ := sw_bind h
  by_cases hb2 : p0 = 108
  · replace h := sw_ifY hb2 h
    refine ga_sw (t := 44) qd13_1 rfl hb2 rfl ?_
    refine go_s qd13_44 rfl ?_
    rw [← sw_sj h] at kk
    exact ga_ri qd13_45 qr13 kk
  · replace h := sw_ifN hb2 h
    by_cases hb3 : p0 = 109
    · replace h := sw_ifY hb3 h
      refine ga_sw (t := 51) qd13_1 rfl hb3 rfl ?_
      refine go_s qd13_51 rfl ?_
      rw [← sw_sj h] at kk
      exact ga_ri qd13_52 qr13 kk
    · replace h := sw_ifN hb3 h
      by_cases hb4 : p0 = 118
      · replace h := sw_ifY hb4 h
        refine ga_sw (t := 46) qd13_1 rfl hb4 rfl ?_
        refine go_s qd13_46 rfl ?_
        rw [← sw_sj h] at kk
        exact ga_ri qd13_47 qr13 kk
      · replace h := sw_ifN hb4 h
        by_cases hb5 : p0 = 119
        · replace h := sw_ifY hb5 h
          refine ga_sw (t := 48) qd13_1 rfl hb5 rfl ?_
          refine ga_k8 qd13_48 rfl ?_
          rw [← sw_sj h] at kk
          exact ga_ri qd13_50 qr13 kk
        · replace h := sw_ifN hb5 h
          refine ga_lsd (t := 53) qd13_1 e1 (by decide) (by intro p hp; simp only [List.mem_cons, List.not_mem_nil, or_false] at hp; rcases hp with rfl | rfl | rfl | rfl <;> (dsimp only; omega)) rfl ?_
          refine go_s qd13_53 rfl ?_
          rw [← sw_sj h] at kk
          exact ga_ri qd13_54 qr13 kk
theorem qr15 : sq_ret 15 = some .boolean := by decide +kernel
-- 15: SewingPiles$OrderText.isFrom(III)Z
def w15 (T : sw_T) (p0 : Int) (p1 : Int) (p2 : Int) : Option (Int) :=
  (sw_r2 p1 p0).bind fun _u =>
  if p1 < p0 then
    some (0)
  else
    (sw_r2 p1 p2).bind fun _u =>
    if p2 < p1 then
      some (0)
    else
      some (1)
theorem A15 {G : sp_G} {z n : Nat} (hn : 228 ≤ n) {T : sw_T} {K : sw_K} {p0 : Int} {p1 : Int} {p2 : Int} {res : Int} {Q : sp_R → sp_M → Prop} (h : w15 T p0 p1 p2 = some res) (kk : Q (.inl (some (.int (Int32.ofInt res)))) (sw_M z n sw_Ft T K)) : sq_go G 15 0 [some (.int (Int32.ofInt p0)), some (.int (Int32.ofInt p1)), some (.int (Int32.ofInt p2))] [] (sw_M z n sw_Ft T K) Q := by
  unfold w15 at h
  refine go_l qd15_0 rfl ?_
  refine go_l qd15_1 rfl ?_
  obtain ⟨_u, e1, h⟩ := sw_bind h
  by_cases hb2 : p1 < p0
  · replace h := sw_ifY hb2 h
    refine ga_cltY (t := 14) qd15_2 e1 hb2 rfl ?_
    refine go_s qd15_14 rfl ?_
    rw [← sw_sj h] at kk
    exact ga_rb (u := ()) qd15_15 qr15 (by decide) kk
  · replace h := sw_ifN hb2 h
    refine ga_cltN (t := 14) qd15_2 e1 hb2 rfl ?_
    refine go_l qd15_5 rfl ?_
    refine go_l qd15_6 rfl ?_
    obtain ⟨_u, e3, h⟩ := sw_bind h
    by_cases hb4 : p2 < p1
    · replace h := sw_ifY hb4 h
      refine ga_cgtY (t := 14) qd15_7 e3 hb4 rfl ?_
      refine go_s qd15_14 rfl ?_
      rw [← sw_sj h] at kk
      exact ga_rb (u := ()) qd15_15 qr15 (by decide) kk
    · replace h := sw_ifN hb4 h
      refine ga_cgtN (t := 14) qd15_7 e3 hb4 rfl ?_
      refine go_s qd15_10 rfl ?_
      refine ga_jp (t := 15) qd15_11 rfl ?_
      rw [← sw_sj h] at kk
      exact ga_rb (u := ()) qd15_15 qr15 (by decide) kk
theorem qr14 : sq_ret 14 = some .int := by decide +kernel
-- 14: SewingPiles$OrderText.stateBehindPart(I)I
def w14 (T : sw_T) (p0 : Int) : Option (Int) :=
  (sw_r2 p0 59).bind fun _u =>
  if p0 = 59 then
    some (0)
  else
    some ((-1))
theorem A14 {G : sp_G} {z n : Nat} (hn : 228 ≤ n) {T : sw_T} {K : sw_K} {p0 : Int} {res : Int} {Q : sp_R → sp_M → Prop} (h : w14 T p0 = some res) (kk : Q (.inl (some (.int (Int32.ofInt res)))) (sw_M z n sw_Ft T K)) : sq_go G 14 0 [some (.int (Int32.ofInt p0))] [] (sw_M z n sw_Ft T K) Q := by
  unfold w14 at h
  refine go_l qd14_0 rfl ?_
  refine ga_k8 qd14_1 rfl ?_
  obtain ⟨_u, e1, h⟩ := sw_bind h
  by_cases hb2 : p0 = 59
  · replace h := sw_ifY hb2 h
    refine ga_cneY (t := 10) qd14_3 e1 hb2 rfl ?_
    refine go_s qd14_6 rfl ?_
    refine ga_jp (t := 11) qd14_7 rfl ?_
    rw [← sw_sj h] at kk
    exact ga_ri qd14_11 qr14 kk
  · replace h := sw_ifN hb2 h
    refine ga_cneN (t := 10) qd14_3 e1 hb2 rfl ?_
    refine go_s qd14_10 rfl ?_
    rw [← sw_sj h] at kk
    exact ga_ri qd14_11 qr14 kk
theorem qk12_31 : sw_ck 12 31 13 1 1 1 1 = true := by decide +kernel
theorem qr12 : sq_ret 12 = some .int := by decide +kernel
theorem qk12_27 : sw_ck 12 27 15 1 3 1 3 = true := by decide +kernel
theorem qk12_34 : sw_ck 12 34 14 1 1 1 1 = true := by decide +kernel
-- 12: SewingPiles$OrderText.stateBehind(II)I
def w12 (T : sw_T) (p0 : Int) (p1 : Int) : Option (Int) :=
  (sw_r1 p0).bind fun _u =>
  if p0 = 0 then
    (w13 T p1).bind fun r4 =>
    some (r4)
  else
  if p0 = 1 then
    (w15 T 48 p1 53).bind fun r7 =>
    (sw_r1 r7).bind fun _u =>
    if r7 = 0 then
      some ((-1))
    else
      some (2)
  else
  if p0 = 2 then
    (sw_r2 p1 46).bind fun _u =>
    if p1 = 46 then
      some (3)
    else
      some ((-1))
  else
  if p0 = 3 then
    (w15 T 49 p1 57).bind fun r15 =>
    (sw_r1 r15).bind fun _u =>
    if r15 = 0 then
      some ((-1))
    else
      some (4)
  else
  if p0 = 4 then
    (w15 T 48 p1 57).bind fun r20 =>
    (sw_r1 r20).bind fun _u =>
    if r20 = 0 then
      (w14 T p1).bind fun r24 =>
      some (r24)
    else
      some (8)
  else
  if p0 = 5 then
    (w15 T 48 p1 53).bind fun r27 =>
    (sw_r1 r27).bind fun _u =>
    if r27 = 0 then
      some ((-1))
    else
      some (6)
  else
  if p0 = 6 then
    (w15 T 49 p1 57).bind fun r32 =>
    (sw_r1 r32).bind fun _u =>
    if r32 = 0 then
      some ((-1))
    else
      some (8)
  else
  if p0 = 7 then
    (w15 T 48 p1 53).bind fun r37 =>
    (sw_r1 r37).bind fun _u =>
    if r37 = 0 then
      some ((-1))
    else
      some (8)
  else
  if p0 = 8 then
    (w14 T p1).bind fun r42 =>
    some (r42)
  else
    some ((-1))
theorem A12 {G : sp_G} {z n : Nat} (hn : 228 ≤ n) {T : sw_T} {K : sw_K} {p0 : Int} {p1 : Int} {res : Int} {Q : sp_R → sp_M → Prop} (h : w12 T p0 p1 = some res) (kk : Q (.inl (some (.int (Int32.ofInt res)))) (sw_M z n sw_Ft T K)) : sq_go G 12 0 [some (.int (Int32.ofInt p0)), some (.int (Int32.ofInt p1))] [] (sw_M z n sw_Ft T K) Q := by
  unfold w12 at h
  refine go_l qd12_0 rfl ?_
  obtain ⟨_u, e1, h⟩ := sw_bind h
  by_cases hb2 : p0 = 0
  · replace h := sw_ifY hb2 h
    refine ga_sw (t := 52) qd12_1 rfl hb2 rfl ?_
    refine go_l qd12_52 rfl ?_
    obtain ⟨r4, e3, h⟩ := sw_bind h
    refine ga_kS (as := [.int (Int32.ofInt p1)]) (rest := []) qd12_53 qk12_31 rfl rfl (Nat.le_of_ble_eq_true rfl) (Nat.le_of_ble_eq_true rfl) rfl (A13 hn e3 (sw_bkv ?_))
    rw [← sw_sj h] at kk
    exact ga_ri qd12_56 qr12 kk
  · replace h := sw_ifN hb2 h
    by_cases hb5 : p0 = 1
    · replace h := sw_ifY hb5 h
      refine ga_sw (t := 57) qd12_1 rfl hb5 rfl ?_
      refine ga_k8 qd12_57 rfl ?_
      refine go_l qd12_59 rfl ?_
      refine ga_k8 qd12_60 rfl ?_
      obtain ⟨r7, e6, h⟩ := sw_bind h
      refine ga_kS (as := [.int (Int32.ofInt 48), .int (Int32.ofInt p1), .int (Int32.ofInt 53)]) (rest := []) qd12_62 qk12_27 rfl rfl (Nat.le_of_ble_eq_true rfl) (Nat.le_of_ble_eq_true rfl) rfl (A15 hn e6 (sw_bkv ?_))
      obtain ⟨_u, e8, h⟩ := sw_bind h
      by_cases hb9 : r7 = 0
      · replace h := sw_ifY hb9 h
        refine ga_zeqY (t := 72) qd12_65 e8 hb9 rfl ?_
        refine go_s qd12_72 rfl ?_
        rw [← sw_sj h] at kk
        exact ga_ri qd12_73 qr12 kk
      · replace h := sw_ifN hb9 h
        refine ga_zeqN (t := 72) qd12_65 e8 hb9 rfl ?_
        refine go_s qd12_68 rfl ?_
        refine ga_jp (t := 73) qd12_69 rfl ?_
        rw [← sw_sj h] at kk
        exact ga_ri qd12_73 qr12 kk
    · replace h := sw_ifN hb5 h
      by_cases hb10 : p0 = 2
      · replace h := sw_ifY hb10 h
        refine ga_sw (t := 74) qd12_1 rfl hb10 rfl ?_
        refine go_l qd12_74 rfl ?_
        refine ga_k8 qd12_75 rfl ?_
        obtain ⟨_u, e11, h⟩ := sw_bind h
        by_cases hb12 : p1 = 46
        · replace h := sw_ifY hb12 h
          refine ga_cneY (t := 84) qd12_77 e11 hb12 rfl ?_
          refine go_s qd12_80 rfl ?_
          refine ga_jp (t := 85) qd12_81 rfl ?_
          rw [← sw_sj h] at kk
          exact ga_ri qd12_85 qr12 kk
        · replace h := sw_ifN hb12 h
          refine ga_cneN (t := 84) qd12_77 e11 hb12 rfl ?_
          refine go_s qd12_84 rfl ?_
          rw [← sw_sj h] at kk
          exact ga_ri qd12_85 qr12 kk
      · replace h := sw_ifN hb10 h
        by_cases hb13 : p0 = 3
        · replace h := sw_ifY hb13 h
          refine ga_sw (t := 86) qd12_1 rfl hb13 rfl ?_
          refine ga_k8 qd12_86 rfl ?_
          refine go_l qd12_88 rfl ?_
          refine ga_k8 qd12_89 rfl ?_
          obtain ⟨r15, e14, h⟩ := sw_bind h
          refine ga_kS (as := [.int (Int32.ofInt 49), .int (Int32.ofInt p1), .int (Int32.ofInt 57)]) (rest := []) qd12_91 qk12_27 rfl rfl (Nat.le_of_ble_eq_true rfl) (Nat.le_of_ble_eq_true rfl) rfl (A15 hn e14 (sw_bkv ?_))
          obtain ⟨_u, e16, h⟩ := sw_bind h
          by_cases hb17 : r15 = 0
          · replace h := sw_ifY hb17 h
            refine ga_zeqY (t := 101) qd12_94 e16 hb17 rfl ?_
            refine go_s qd12_101 rfl ?_
            rw [← sw_sj h] at kk
            exact ga_ri qd12_102 qr12 kk
          · replace h := sw_ifN hb17 h
            refine ga_zeqN (t := 101) qd12_94 e16 hb17 rfl ?_
            refine go_s qd12_97 rfl ?_
            refine ga_jp (t := 102) qd12_98 rfl ?_
            rw [← sw_sj h] at kk
            exact ga_ri qd12_102 qr12 kk
        · replace h := sw_ifN hb13 h
          by_cases hb18 : p0 = 4
          · replace h := sw_ifY hb18 h
            refine ga_sw (t := 103) qd12_1 rfl hb18 rfl ?_
            refine ga_k8 qd12_103 rfl ?_
            refine go_l qd12_105 rfl ?_
            refine ga_k8 qd12_106 rfl ?_
            obtain ⟨r20, e19, h⟩ := sw_bind h
            refine ga_kS (as := [.int (Int32.ofInt 48), .int (Int32.ofInt p1), .int (Int32.ofInt 57)]) (rest := []) qd12_108 qk12_27 rfl rfl (Nat.le_of_ble_eq_true rfl) (Nat.le_of_ble_eq_true rfl) rfl (A15 hn e19 (sw_bkv ?_))
            obtain ⟨_u, e21, h⟩ := sw_bind h
            by_cases hb22 : r20 = 0
            · replace h := sw_ifY hb22 h
              refine ga_zeqY (t := 119) qd12_111 e21 hb22 rfl ?_
              refine go_l qd12_119 rfl ?_
              obtain ⟨r24, e23, h⟩ := sw_bind h
              refine ga_kS (as := [.int (Int32.ofInt p1)]) (rest := []) qd12_120 qk12_34 rfl rfl (Nat.le_of_ble_eq_true rfl) (Nat.le_of_ble_eq_true rfl) rfl (A14 hn e23 (sw_bkv ?_))
              rw [← sw_sj h] at kk
              exact ga_ri qd12_123 qr12 kk
            · replace h := sw_ifN hb22 h
              refine ga_zeqN (t := 119) qd12_111 e21 hb22 rfl ?_
              refine ga_k8 qd12_114 rfl ?_
              refine ga_jp (t := 123) qd12_116 rfl ?_
              rw [← sw_sj h] at kk
              exact ga_ri qd12_123 qr12 kk
          · replace h := sw_ifN hb18 h
            by_cases hb25 : p0 = 5
            · replace h := sw_ifY hb25 h
              refine ga_sw (t := 124) qd12_1 rfl hb25 rfl ?_
              refine ga_k8 qd12_124 rfl ?_
              refine go_l qd12_126 rfl ?_
              refine ga_k8 qd12_127 rfl ?_
              obtain ⟨r27, e26, h⟩ := sw_bind h
              refine ga_kS (as := [.int (Int32.ofInt 48), .int (Int32.ofInt p1), .int (Int32.ofInt 53)]) (rest := []) qd12_129 qk12_27 rfl rfl (Nat.le_of_ble_eq_true rfl) (Nat.le_of_ble_eq_true rfl) rfl (A15 hn e26 (sw_bkv ?_))
              obtain ⟨_u, e28, h⟩ := sw_bind h
              by_cases hb29 : r27 = 0
              · replace h := sw_ifY hb29 h
                refine ga_zeqY (t := 140) qd12_132 e28 hb29 rfl ?_
                refine go_s qd12_140 rfl ?_
                rw [← sw_sj h] at kk
                exact ga_ri qd12_141 qr12 kk
              · replace h := sw_ifN hb29 h
                refine ga_zeqN (t := 140) qd12_132 e28 hb29 rfl ?_
                refine ga_k8 qd12_135 rfl ?_
                refine ga_jp (t := 141) qd12_137 rfl ?_
                rw [← sw_sj h] at kk
                exact ga_ri qd12_141 qr12 kk
            · replace h := sw_ifN hb25 h
              by_cases hb30 : p0 = 6
              · replace h := sw_ifY hb30 h
                refine ga_sw (t := 142) qd12_1 rfl hb30 rfl ?_
                refine ga_k8 qd12_142 rfl ?_
                refine go_l qd12_144 rfl ?_
                refine ga_k8 qd12_145 rfl ?_
                obtain ⟨r32, e31, h⟩ := sw_bind h
                refine ga_kS (as := [.int (Int32.ofInt 49), .int (Int32.ofInt p1), .int (Int32.ofInt 57)]) (rest := []) qd12_147 qk12_27 rfl rfl (Nat.le_of_ble_eq_true rfl) (Nat.le_of_ble_eq_true rfl) rfl (A15 hn e31 (sw_bkv ?_))
                obtain ⟨_u, e33, h⟩ := sw_bind h
                by_cases hb34 : r32 = 0
                · replace h := sw_ifY hb34 h
                  refine ga_zeqY (t := 158) qd12_150 e33 hb34 rfl ?_
                  refine go_s qd12_158 rfl ?_
                  rw [← sw_sj h] at kk
                  exact ga_ri qd12_159 qr12 kk
                · replace h := sw_ifN hb34 h
                  refine ga_zeqN (t := 158) qd12_150 e33 hb34 rfl ?_
                  refine ga_k8 qd12_153 rfl ?_
                  refine ga_jp (t := 159) qd12_155 rfl ?_
                  rw [← sw_sj h] at kk
                  exact ga_ri qd12_159 qr12 kk
              · replace h := sw_ifN hb30 h
                by_cases hb35 : p0 = 7
                · replace h := sw_ifY hb35 h
                  refine ga_sw (t := 160) qd12_1 rfl hb35 rfl ?_
                  refine ga_k8 qd12_160 rfl ?_
                  refine go_l qd12_162 rfl ?_
                  refine ga_k8 qd12_163 rfl ?_
                  obtain ⟨r37, e36, h⟩ := sw_bind h
                  refine ga_kS (as := [.int (Int32.ofInt 48), .int (Int32.ofInt p1), .int (Int32.ofInt 53)]) (rest := []) qd12_165 qk12_27 rfl rfl (Nat.le_of_ble_eq_true rfl) (Nat.le_of_ble_eq_true rfl) rfl (A15 hn e36 (sw_bkv ?_))
                  obtain ⟨_u, e38, h⟩ := sw_bind h
                  by_cases hb39 : r37 = 0
                  · replace h := sw_ifY hb39 h
                    refine ga_zeqY (t := 176) qd12_168 e38 hb39 rfl ?_
                    refine go_s qd12_176 rfl ?_
                    rw [← sw_sj h] at kk
                    exact ga_ri qd12_177 qr12 kk
                  · replace h := sw_ifN hb39 h
                    refine ga_zeqN (t := 176) qd12_168 e38 hb39 rfl ?_
                    refine ga_k8 qd12_171 rfl ?_
                    refine ga_jp (t := 177) qd12_173 rfl ?_
                    rw [← sw_sj h] at kk
                    exact ga_ri qd12_177 qr12 kk
                · replace h := sw_ifN hb35 h
                  by_cases hb40 : p0 = 8
                  · replace h := sw_ifY hb40 h
                    refine ga_sw (t := 178) qd12_1 rfl hb40 rfl ?_
                    refine go_l qd12_178 rfl ?_
                    obtain ⟨r42, e41, h⟩ := sw_bind h
                    refine ga_kS (as := [.int (Int32.ofInt p1)]) (rest := []) qd12_179 qk12_34 rfl rfl (Nat.le_of_ble_eq_true rfl) (Nat.le_of_ble_eq_true rfl) rfl (A14 hn e41 (sw_bkv ?_))
                    rw [← sw_sj h] at kk
                    exact ga_ri qd12_182 qr12 kk
                  · replace h := sw_ifN hb40 h
                    refine ga_tsd (t := 183) qd12_1 e1 (by omega) rfl ?_
                    refine go_s qd12_183 rfl ?_
                    rw [← sw_sj h] at kk
                    exact ga_ri qd12_184 qr12 kk
theorem qc8 : sq_c 8 = 1 := by decide +kernel
theorem qk8_19 : sw_ck 8 19 12 1 2 1 2 = true := by decide +kernel
theorem qr8 : sq_ret 8 = some .int := by decide +kernel
-- 8: SewingPiles$OrderText.indexOfError()I
def w8_4 (T : sw_T) : Nat → Int → Int → Option ((Unit) ⊕ (Int))
  | 0, _, _ => none
  | m + 1, l1, l2 =>
    (sw_r2 l2 (T 219 1)).bind fun _u =>
    if l2 < (T 219 1) then
      (sw_ld T 220 60 l2).bind fun v4 =>
      (w12 T l1 v4).bind fun r6 =>
      (sw_r2 r6 (-1)).bind fun _u =>
      if r6 = (-1) then
        some (.inr (l2))
      else
        w8_4 T m r6 (l2 + 1)
    else
      some (.inl ())
theorem B8_4 {G : sp_G} {z n : Nat} (hn : 228 ≤ n) {T : sw_T} {K : sw_K} {res : (Unit) ⊕ (Int)} {Q : sp_R → sp_M → Prop} (kk : ∀ s, res = .inl s → sq_go G 8 36 [some (.ref (z + 219)), none, none] [] (sw_M z n sw_Ft T K) Q) (kr : ∀ r, res = .inr r → Q (.inl (some (.int (Int32.ofInt r)))) (sw_M z n sw_Ft T K)) : ∀ (m : Nat) (l1 : Int) (l2 : Int), w8_4 T m l1 l2 = some res → sq_go G 8 4 [some (.ref (z + 219)), some (.int (Int32.ofInt l1)), some (.int (Int32.ofInt l2))] [] (sw_M z n sw_Ft T K) Q := by
  intro m
  induction m with
  | zero => intro l1 l2 h; cases h
  | succ m ih =>
    intro l1 l2 h
    rw [w8_4] at h
    refine go_l qd8_4 rfl ?_
    refine go_l qd8_5 rfl ?_
    refine ga_gf (v := .int (Int32.ofInt (T 219 1))) qd8_6 qc8 qf1_15 (sw_sl hn (by decide)) rfl rfl ?_
    obtain ⟨_u, e1, h⟩ := sw_bind h
    by_cases hb2 : l2 < (T 219 1)
    · replace h := sw_ifY hb2 h
      refine ga_cgeY (t := 36) qd8_9 e1 hb2 rfl ?_
      refine go_l qd8_12 rfl ?_
      refine go_l qd8_13 rfl ?_
      refine ga_gf (v := .ref (z + 220)) qd8_14 qc8 qf1_9 (sw_sl hn (by decide)) rfl rfl ?_
      refine go_l qd8_17 rfl ?_
      obtain ⟨v4, e3, h⟩ := sw_bind h
      refine ga_cald qd8_18 (sw_sl hn (by decide)) e3 ?_
      obtain ⟨r6, e5, h⟩ := sw_bind h
      refine ga_kS (as := [.int (Int32.ofInt l1), .int (Int32.ofInt v4)]) (rest := []) qd8_19 qk8_19 rfl rfl (Nat.le_of_ble_eq_true rfl) (Nat.le_of_ble_eq_true rfl) rfl (A12 hn e5 (sw_bkv ?_))
      refine go_l (L' := [some (.ref (z + 219)), some (.int (Int32.ofInt r6)), some (.int (Int32.ofInt l2))]) (st' := []) qd8_22 rfl ?_
      refine go_l qd8_23 rfl ?_
      refine go_s qd8_24 rfl ?_
      obtain ⟨_u, e7, h⟩ := sw_bind h
      by_cases hb8 : r6 = (-1)
      · replace h := sw_ifY hb8 h
        refine ga_cneY (t := 30) qd8_25 e7 hb8 rfl ?_
        refine go_l qd8_28 rfl ?_
        exact ga_ri qd8_29 qr8 (kr _ (sw_sj h).symm)
      · replace h := sw_ifN hb8 h
        refine ga_cneN (t := 30) qd8_25 e7 hb8 rfl ?_
        refine ga_ii (L' := [some (.ref (z + 219)), some (.int (Int32.ofInt r6)), some (.int (Int32.ofInt (l2 + 1)))]) qd8_30 rfl rfl ?_
        refine ga_jp (t := 4) qd8_33 rfl ?_
        exact sq_weak (L := [some (.ref (z + 219)), some (.int (Int32.ofInt r6)), some (.int (Int32.ofInt (l2 + 1)))]) ⟨rfl, rfl, rfl, trivial⟩ (ih _ _ h)
    · replace h := sw_ifN hb2 h
      refine ga_cgeN (t := 36) qd8_9 e1 hb2 rfl ?_
      exact sq_weak (L := [some (.ref (z + 219)), none, none]) ⟨rfl, trivial⟩ (kk _ (sw_sj h).symm)
def w8 (T : sw_T) : Option (Int) :=
  (w8_4 T sw_N 0 0).bind fun x9 =>
  sw_el x9 (fun x11 =>
    some ((T 219 1))
  ) (fun r => some r)
theorem A8 {G : sp_G} {z n : Nat} (hn : 228 ≤ n) {T : sw_T} {K : sw_K} {res : Int} {Q : sp_R → sp_M → Prop} (h : w8 T = some res) (kk : Q (.inl (some (.int (Int32.ofInt res)))) (sw_M z n sw_Ft T K)) : sq_go G 8 0 [some (.ref (z + 219)), none, none] [] (sw_M z n sw_Ft T K) Q := by
  unfold w8 at h
  refine go_s qd8_0 rfl ?_
  refine go_l (L' := [some (.ref (z + 219)), some (.int (Int32.ofInt 0)), none]) (st' := []) qd8_1 rfl ?_
  refine go_s qd8_2 rfl ?_
  refine go_l (L' := [some (.ref (z + 219)), some (.int (Int32.ofInt 0)), some (.int (Int32.ofInt 0))]) (st' := []) qd8_3 rfl ?_
  obtain ⟨x9, e10, h⟩ := sw_bind h
  refine sq_weak (L := [some (.ref (z + 219)), some (.int (Int32.ofInt 0)), some (.int (Int32.ofInt 0))]) ⟨rfl, rfl, rfl, trivial⟩ (B8_4 hn (res := x9) (fun x11 g12 => ?_) (fun r g12 => ?_) _ _ _ e10)
  · replace h := sw_elL g12 h
    refine go_l qd8_36 rfl ?_
    refine ga_gf (v := .int (Int32.ofInt (T 219 1))) qd8_37 qc8 qf1_15 (sw_sl hn (by decide)) rfl rfl ?_
    rw [← sw_sj h] at kk
    exact ga_ri qd8_40 qr8 kk
  · replace h := sw_elR g12 h
    rw [← sw_sj h] at kk
    exact kk
theorem qc9 : sq_c 9 = 1 := by decide +kernel
theorem qk9_19 : sw_ck 9 19 12 1 2 1 2 = true := by decide +kernel
theorem qr9 : sq_ret 9 = some .boolean := by decide +kernel
-- 9: SewingPiles$OrderText.isComplete()Z
def w9_4 (T : sw_T) : Nat → Int → Int → Option (Int)
  | 0, _, _ => none
  | m + 1, l1, l2 =>
    (sw_r2 l2 (T 219 1)).bind fun _u =>
    if l2 < (T 219 1) then
      (sw_ld T 220 60 l2).bind fun v4 =>
      (w12 T l1 v4).bind fun r6 =>
      w9_4 T m r6 (l2 + 1)
    else
      some (l1)
theorem B9_4 {G : sp_G} {z n : Nat} (hn : 228 ≤ n) {T : sw_T} {K : sw_K} {res : Int} {Q : sp_R → sp_M → Prop} (kk : sq_go G 9 29 [none, some (.int (Int32.ofInt res)), none] [] (sw_M z n sw_Ft T K) Q) : ∀ (m : Nat) (l1 : Int) (l2 : Int), w9_4 T m l1 l2 = some res → sq_go G 9 4 [some (.ref (z + 219)), some (.int (Int32.ofInt l1)), some (.int (Int32.ofInt l2))] [] (sw_M z n sw_Ft T K) Q := by
  intro m
  induction m with
  | zero => intro l1 l2 h; cases h
  | succ m ih =>
    intro l1 l2 h
    rw [w9_4] at h
    refine go_l qd9_4 rfl ?_
    refine go_l qd9_5 rfl ?_
    refine ga_gf (v := .int (Int32.ofInt (T 219 1))) qd9_6 qc9 qf1_15 (sw_sl hn (by decide)) rfl rfl ?_
    obtain ⟨_u, e1, h⟩ := sw_bind h
    by_cases hb2 : l2 < (T 219 1)
    · replace h := sw_ifY hb2 h
      refine ga_cgeY (t := 29) qd9_9 e1 hb2 rfl ?_
      refine go_l qd9_12 rfl ?_
      refine go_l qd9_13 rfl ?_
      refine ga_gf (v := .ref (z + 220)) qd9_14 qc9 qf1_9 (sw_sl hn (by decide)) rfl rfl ?_
      refine go_l qd9_17 rfl ?_
      obtain ⟨v4, e3, h⟩ := sw_bind h
      refine ga_cald qd9_18 (sw_sl hn (by decide)) e3 ?_
      obtain ⟨r6, e5, h⟩ := sw_bind h
      refine ga_kS (as := [.int (Int32.ofInt l1), .int (Int32.ofInt v4)]) (rest := []) qd9_19 qk9_19 rfl rfl (Nat.le_of_ble_eq_true rfl) (Nat.le_of_ble_eq_true rfl) rfl (A12 hn e5 (sw_bkv ?_))
      refine go_l (L' := [some (.ref (z + 219)), some (.int (Int32.ofInt r6)), some (.int (Int32.ofInt l2))]) (st' := []) qd9_22 rfl ?_
      refine ga_ii (L' := [some (.ref (z + 219)), some (.int (Int32.ofInt r6)), some (.int (Int32.ofInt (l2 + 1)))]) qd9_23 rfl rfl ?_
      refine ga_jp (t := 4) qd9_26 rfl ?_
      exact sq_weak (L := [some (.ref (z + 219)), some (.int (Int32.ofInt r6)), some (.int (Int32.ofInt (l2 + 1)))]) ⟨rfl, rfl, rfl, trivial⟩ (ih _ _ h)
    · replace h := sw_ifN hb2 h
      refine ga_cgeN (t := 29) qd9_9 e1 hb2 rfl ?_
      rw [← sw_sj h] at kk
      exact sq_weak (L := [none, some (.int (Int32.ofInt l1)), none]) ⟨rfl, trivial⟩ kk
def w9 (T : sw_T) : Option (Int) :=
  (w9_4 T sw_N 0 0).bind fun x7 =>
  (sw_r2 x7 4).bind fun _u =>
  if x7 = 4 then
    some (1)
  else
    (sw_r2 x7 8).bind fun _u =>
    if x7 = 8 then
      some (1)
    else
      some (0)
theorem A9 {G : sp_G} {z n : Nat} (hn : 228 ≤ n) {T : sw_T} {K : sw_K} {res : Int} {Q : sp_R → sp_M → Prop} (h : w9 T = some res) (kk : Q (.inl (some (.int (Int32.ofInt res)))) (sw_M z n sw_Ft T K)) : sq_go G 9 0 [some (.ref (z + 219)), none, none] [] (sw_M z n sw_Ft T K) Q := by
  unfold w9 at h
  refine go_s qd9_0 rfl ?_
  refine go_l (L' := [some (.ref (z + 219)), some (.int (Int32.ofInt 0)), none]) (st' := []) qd9_1 rfl ?_
  refine go_s qd9_2 rfl ?_
  refine go_l (L' := [some (.ref (z + 219)), some (.int (Int32.ofInt 0)), some (.int (Int32.ofInt 0))]) (st' := []) qd9_3 rfl ?_
  obtain ⟨x7, e8, h⟩ := sw_bind h
  refine sq_weak (L := [some (.ref (z + 219)), some (.int (Int32.ofInt 0)), some (.int (Int32.ofInt 0))]) ⟨rfl, rfl, rfl, trivial⟩ (B9_4 hn (res := x7) ?_ _ _ _ e8)
  refine go_l qd9_29 rfl ?_
  refine go_s qd9_30 rfl ?_
  obtain ⟨_u, e9, h⟩ := sw_bind h
  by_cases hb10 : x7 = 4
  · replace h := sw_ifY hb10 h
    refine ga_ceqY (t := 40) qd9_31 e9 hb10 rfl ?_
    refine go_s qd9_40 rfl ?_
    refine ga_jp (t := 45) qd9_41 rfl ?_
    rw [← sw_sj h] at kk
    exact ga_rb (u := ()) qd9_45 qr9 (by decide) kk
  · replace h := sw_ifN hb10 h
    refine ga_ceqN (t := 40) qd9_31 e9 hb10 rfl ?_
    refine go_l qd9_34 rfl ?_
    refine ga_k8 qd9_35 rfl ?_
    obtain ⟨_u, e11, h⟩ := sw_bind h
    by_cases hb12 : x7 = 8
    · replace h := sw_ifY hb12 h
      refine ga_cneY (t := 44) qd9_37 e11 hb12 rfl ?_
      refine go_s qd9_40 rfl ?_
      refine ga_jp (t := 45) qd9_41 rfl ?_
      rw [← sw_sj h] at kk
      exact ga_rb (u := ()) qd9_45 qr9 (by decide) kk
    · replace h := sw_ifN hb12 h
      refine ga_cneN (t := 44) qd9_37 e11 hb12 rfl ?_
      refine go_s qd9_44 rfl ?_
      rw [← sw_sj h] at kk
      exact ga_rb (u := ()) qd9_45 qr9 (by decide) kk
theorem qr10 : sq_ret 10 = some .boolean := by decide +kernel
theorem qk10_23 : sw_ck 10 23 7 0 1 1 2 = true := by decide +kernel
-- 10: SewingPiles$OrderText.startsPart(I)Z
def w10 (T : sw_T) (p1 : Int) : Option (Int) :=
  (sw_r1 p1).bind fun _u =>
  if p1 = 0 then
    some (1)
  else
    (w7 T (p1 - 1)).bind fun r4 =>
    (sw_r2 r4 59).bind fun _u =>
    if r4 = 59 then
      some (1)
    else
      some (0)
theorem A10 {G : sp_G} {z n : Nat} (hn : 228 ≤ n) {T : sw_T} {K : sw_K} {p1 : Int} {res : Int} {Q : sp_R → sp_M → Prop} (h : w10 T p1 = some res) (kk : Q (.inl (some (.int (Int32.ofInt res)))) (sw_M z n sw_Ft T K)) : sq_go G 10 0 [some (.ref (z + 219)), some (.int (Int32.ofInt p1))] [] (sw_M z n sw_Ft T K) Q := by
  unfold w10 at h
  refine go_l qd10_0 rfl ?_
  obtain ⟨_u, e1, h⟩ := sw_bind h
  by_cases hb2 : p1 = 0
  · replace h := sw_ifY hb2 h
    refine ga_zeqY (t := 16) qd10_1 e1 hb2 rfl ?_
    refine go_s qd10_16 rfl ?_
    refine ga_jp (t := 21) qd10_17 rfl ?_
    rw [← sw_sj h] at kk
    exact ga_rb (u := ()) qd10_21 qr10 (by decide) kk
  · replace h := sw_ifN hb2 h
    refine ga_zeqN (t := 16) qd10_1 e1 hb2 rfl ?_
    refine go_l qd10_4 rfl ?_
    refine go_l qd10_5 rfl ?_
    refine go_s qd10_6 rfl ?_
    refine ga_isub qd10_7 ?_
    obtain ⟨r4, e3, h⟩ := sw_bind h
    refine ga_kv (a := 219) (as := [.int (Int32.ofInt (p1 - 1))]) (rest := []) qd10_8 qk10_23 (sw_sl hn (by decide)) rfl rfl rfl (Nat.le_of_ble_eq_true rfl) (Nat.le_of_ble_eq_true rfl) rfl (A7 hn e3 (sw_bkv ?_))
    refine ga_k8 qd10_11 rfl ?_
    obtain ⟨_u, e5, h⟩ := sw_bind h
    by_cases hb6 : r4 = 59
    · replace h := sw_ifY hb6 h
      refine ga_cneY (t := 20) qd10_13 e5 hb6 rfl ?_
      refine go_s qd10_16 rfl ?_
      refine ga_jp (t := 21) qd10_17 rfl ?_
      rw [← sw_sj h] at kk
      exact ga_rb (u := ()) qd10_21 qr10 (by decide) kk
    · replace h := sw_ifN hb6 h
      refine ga_cneN (t := 20) qd10_13 e5 hb6 rfl ?_
      refine go_s qd10_20 rfl ?_
      rw [← sw_sj h] at kk
      exact ga_rb (u := ()) qd10_21 qr10 (by decide) kk
theorem qk11_23 : sw_ck 11 23 7 0 1 1 2 = true := by decide +kernel
theorem qk11_27 : sw_ck 11 27 15 1 3 1 3 = true := by decide +kernel
theorem qr11 : sq_ret 11 = some .int := by decide +kernel
-- 11: SewingPiles$OrderText.numberAt(I)I
def w11 (T : sw_T) (p1 : Int) : Option (Int) :=
  (w7 T p1).bind fun r2 =>
  (w7 T (p1 + 1)).bind fun r4 =>
  (w15 T 48 r4 57).bind fun r6 =>
  (sw_r1 r6).bind fun _u =>
  if r6 = 0 then
    some ((r2 - 48))
  else
    some ((((10 * (r2 - 48)) + r4) - 48))
theorem A11 {G : sp_G} {z n : Nat} (hn : 228 ≤ n) {T : sw_T} {K : sw_K} {p1 : Int} {res : Int} {Q : sp_R → sp_M → Prop} (h : w11 T p1 = some res) (kk : Q (.inl (some (.int (Int32.ofInt res)))) (sw_M z n sw_Ft T K)) : sq_go G 11 0 [some (.ref (z + 219)), some (.int (Int32.ofInt p1)), none, none] [] (sw_M z n sw_Ft T K) Q := by
  unfold w11 at h
  refine go_l qd11_0 rfl ?_
  refine go_l qd11_1 rfl ?_
  obtain ⟨r2, e1, h⟩ := sw_bind h
  refine ga_kv (a := 219) (as := [.int (Int32.ofInt p1)]) (rest := []) qd11_2 qk11_23 (sw_sl hn (by decide)) rfl rfl rfl (Nat.le_of_ble_eq_true rfl) (Nat.le_of_ble_eq_true rfl) rfl (A7 hn e1 (sw_bkv ?_))
  refine ga_k8 qd11_5 rfl ?_
  refine ga_isub qd11_7 ?_
  refine go_l (L' := [some (.ref (z + 219)), some (.int (Int32.ofInt p1)), some (.int (Int32.ofInt (r2 - 48))), none]) (st' := []) qd11_8 rfl ?_
  refine go_l qd11_9 rfl ?_
  refine go_l qd11_10 rfl ?_
  refine go_s qd11_11 rfl ?_
  refine ga_iadd qd11_12 ?_
  obtain ⟨r4, e3, h⟩ := sw_bind h
  refine ga_kv (a := 219) (as := [.int (Int32.ofInt (p1 + 1))]) (rest := []) qd11_13 qk11_23 (sw_sl hn (by decide)) rfl rfl rfl (Nat.le_of_ble_eq_true rfl) (Nat.le_of_ble_eq_true rfl) rfl (A7 hn e3 (sw_bkv ?_))
  refine go_l (L' := [some (.ref (z + 219)), some (.int (Int32.ofInt p1)), some (.int (Int32.ofInt (r2 - 48))), some (.int (Int32.ofInt r4))]) (st' := []) qd11_16 rfl ?_
  refine ga_k8 qd11_17 rfl ?_
  refine go_l qd11_19 rfl ?_
  refine ga_k8 qd11_20 rfl ?_
  obtain ⟨r6, e5, h⟩ := sw_bind h
  refine ga_kS (as := [.int (Int32.ofInt 48), .int (Int32.ofInt r4), .int (Int32.ofInt 57)]) (rest := []) qd11_22 qk11_27 rfl rfl (Nat.le_of_ble_eq_true rfl) (Nat.le_of_ble_eq_true rfl) rfl (A15 hn e5 (sw_bkv ?_))
  obtain ⟨_u, e7, h⟩ := sw_bind h
  by_cases hb8 : r6 = 0
  · replace h := sw_ifY hb8 h
    refine ga_zeqY (t := 40) qd11_25 e7 hb8 rfl ?_
    refine go_l qd11_40 rfl ?_
    rw [← sw_sj h] at kk
    exact ga_ri qd11_41 qr11 kk
  · replace h := sw_ifN hb8 h
    refine ga_zeqN (t := 40) qd11_25 e7 hb8 rfl ?_
    refine ga_k8 qd11_28 rfl ?_
    refine go_l qd11_30 rfl ?_
    refine ga_imul qd11_31 ?_
    refine go_l qd11_32 rfl ?_
    refine ga_iadd qd11_33 ?_
    refine ga_k8 qd11_34 rfl ?_
    refine ga_isub qd11_36 ?_
    refine ga_jp (t := 41) qd11_37 rfl ?_
    rw [← sw_sj h] at kk
    exact ga_ri qd11_41 qr11 kk
theorem qr18 : sq_ret 18 = some .int := by decide +kernel
theorem qc18 : sq_c 18 = 2 := by decide +kernel
-- 18: SewingPiles$Piles.height(I)I
def w18 (b : Nat) (T : sw_T) (p1 : Int) : Option (Int) :=
  (sw_r1 p1).bind fun _u =>
  if p1 < 0 then
    some (0)
  else
    (sw_r2 p1 7).bind fun _u =>
    if p1 < 7 then
      (sw_ld T (b + 11) 7 p1).bind fun v6 =>
      some (v6)
    else
      some (0)
theorem A18 {G : sp_G} {z n : Nat} (hn : 228 ≤ n) {b : Nat} (hb : b ∈ sw_rm) {T : sw_T} {K : sw_K} {p1 : Int} {res : Int} {Q : sp_R → sp_M → Prop} (h : w18 b T p1 = some res) (kk : Q (.inl (some (.int (Int32.ofInt res)))) (sw_M z n sw_Ft T K)) : sq_go G 18 0 [some (.ref (z + (b + 10))), some (.int (Int32.ofInt p1))] [] (sw_M z n sw_Ft T K) Q := by
  unfold w18 at h
  refine go_l qd18_0 rfl ?_
  obtain ⟨_u, e1, h⟩ := sw_bind h
  by_cases hb2 : p1 < 0
  · replace h := sw_ifY hb2 h
    refine ga_zltY (t := 19) qd18_1 e1 hb2 rfl ?_
    refine go_s qd18_19 rfl ?_
    rw [← sw_sj h] at kk
    exact ga_ri qd18_20 qr18 kk
  · replace h := sw_ifN hb2 h
    refine ga_zltN (t := 19) qd18_1 e1 hb2 rfl ?_
    refine go_l qd18_4 rfl ?_
    refine ga_k8 qd18_5 rfl ?_
    obtain ⟨_u, e3, h⟩ := sw_bind h
    by_cases hb4 : p1 < 7
    · replace h := sw_ifY hb4 h
      refine ga_cgeY (t := 19) qd18_7 e3 hb4 rfl ?_
      refine go_l qd18_10 rfl ?_
      refine ga_gf (v := .ref (z + (b + 11))) qd18_11 qc18 qf2_11 (sw_rk hn hb 10 (by decide)) rfl rfl ?_
      refine go_l qd18_14 rfl ?_
      obtain ⟨v6, e5, h⟩ := sw_bind h
      refine ga_iald qd18_15 (sw_rk hn hb 11 (by decide)) e5 ?_
      refine ga_jp (t := 20) qd18_16 rfl ?_
      rw [← sw_sj h] at kk
      exact ga_ri qd18_20 qr18 kk
    · replace h := sw_ifN hb4 h
      refine ga_cgeN (t := 19) qd18_7 e3 hb4 rfl ?_
      refine go_s qd18_19 rfl ?_
      rw [← sw_sj h] at kk
      exact ga_ri qd18_20 qr18 kk
theorem qr19 : sq_ret 19 = some .int := by decide +kernel
theorem qc19 : sq_c 19 = 2 := by decide +kernel
-- 19: SewingPiles$Piles.at(II)I
def w19 (b : Nat) (T : sw_T) (p1 : Int) (p2 : Int) : Option (Int) :=
  (sw_r1 p1).bind fun _u =>
  if p1 < 0 then
    some ((-1))
  else
    (sw_r2 p1 7).bind fun _u =>
    if p1 < 7 then
      (sw_r1 p2).bind fun _u =>
      if p2 < 0 then
        some ((-1))
      else
        (sw_r2 p2 16).bind fun _u =>
        if p2 < 16 then
          (sw_ld T (b + 11) 7 p1).bind fun v10 =>
          (sw_r2 p2 v10).bind fun _u =>
          if p2 < v10 then
            (sw_rw 7 p1).bind fun u14 =>
            (sw_ld T (b + 12 + 1 + u14) 16 p2).bind fun v16 =>
            some (v16)
          else
            some ((-1))
        else
          some ((-1))
    else
      some ((-1))
theorem A19 {G : sp_G} {z n : Nat} (hn : 228 ≤ n) {b : Nat} (hb : b ∈ sw_rm) {T : sw_T} {K : sw_K} {p1 : Int} {p2 : Int} {res : Int} {Q : sp_R → sp_M → Prop} (h : w19 b T p1 p2 = some res) (kk : Q (.inl (some (.int (Int32.ofInt res)))) (sw_M z n sw_Ft T K)) : sq_go G 19 0 [some (.ref (z + (b + 10))), some (.int (Int32.ofInt p1)), some (.int (Int32.ofInt p2))] [] (sw_M z n sw_Ft T K) Q := by
  unfold w19 at h
  refine go_l qd19_0 rfl ?_
  obtain ⟨_u, e1, h⟩ := sw_bind h
  by_cases hb2 : p1 < 0
  · replace h := sw_ifY hb2 h
    refine ga_zltY (t := 20) qd19_1 e1 hb2 rfl ?_
    refine go_s qd19_20 rfl ?_
    rw [← sw_sj h] at kk
    exact ga_ri qd19_21 qr19 kk
  · replace h := sw_ifN hb2 h
    refine ga_zltN (t := 20) qd19_1 e1 hb2 rfl ?_
    refine go_l qd19_4 rfl ?_
    refine ga_k8 qd19_5 rfl ?_
    obtain ⟨_u, e3, h⟩ := sw_bind h
    by_cases hb4 : p1 < 7
    · replace h := sw_ifY hb4 h
      refine ga_cgeY (t := 20) qd19_7 e3 hb4 rfl ?_
      refine go_l qd19_10 rfl ?_
      obtain ⟨_u, e5, h⟩ := sw_bind h
      by_cases hb6 : p2 < 0
      · replace h := sw_ifY hb6 h
        refine ga_zltY (t := 20) qd19_11 e5 hb6 rfl ?_
        refine go_s qd19_20 rfl ?_
        rw [← sw_sj h] at kk
        exact ga_ri qd19_21 qr19 kk
      · replace h := sw_ifN hb6 h
        refine ga_zltN (t := 20) qd19_11 e5 hb6 rfl ?_
        refine go_l qd19_14 rfl ?_
        refine ga_k8 qd19_15 rfl ?_
        obtain ⟨_u, e7, h⟩ := sw_bind h
        by_cases hb8 : p2 < 16
        · replace h := sw_ifY hb8 h
          refine ga_cltY (t := 22) qd19_17 e7 hb8 rfl ?_
          refine go_l qd19_22 rfl ?_
          refine go_l qd19_23 rfl ?_
          refine ga_gf (v := .ref (z + (b + 11))) qd19_24 qc19 qf2_11 (sw_rk hn hb 10 (by decide)) rfl rfl ?_
          refine go_l qd19_27 rfl ?_
          obtain ⟨v10, e9, h⟩ := sw_bind h
          refine ga_iald qd19_28 (sw_rk hn hb 11 (by decide)) e9 ?_
          obtain ⟨_u, e11, h⟩ := sw_bind h
          by_cases hb12 : p2 < v10
          · replace h := sw_ifY hb12 h
            refine ga_cgeY (t := 43) qd19_29 e11 hb12 rfl ?_
            refine go_l qd19_32 rfl ?_
            refine ga_gf (v := .ref (z + (b + 12))) qd19_33 qc19 qf2_19 (sw_rk hn hb 10 (by decide)) rfl rfl ?_
            refine go_l qd19_36 rfl ?_
            obtain ⟨u14, e13, h⟩ := sw_bind h
            refine ga_row qd19_37 (sw_rk hn hb 12 (by decide)) e13 ?_
            refine go_l qd19_38 rfl ?_
            obtain ⟨v16, e15, h⟩ := sw_bind h
            refine ga_iald qd19_39 (sw_rr hn hb e13) e15 ?_
            refine ga_jp (t := 44) qd19_40 rfl ?_
            rw [← sw_sj h] at kk
            exact ga_ri qd19_44 qr19 kk
          · replace h := sw_ifN hb12 h
            refine ga_cgeN (t := 43) qd19_29 e11 hb12 rfl ?_
            refine go_s qd19_43 rfl ?_
            rw [← sw_sj h] at kk
            exact ga_ri qd19_44 qr19 kk
        · replace h := sw_ifN hb8 h
          refine ga_cltN (t := 22) qd19_17 e7 hb8 rfl ?_
          refine go_s qd19_20 rfl ?_
          rw [← sw_sj h] at kk
          exact ga_ri qd19_21 qr19 kk
    · replace h := sw_ifN hb4 h
      refine ga_cgeN (t := 20) qd19_7 e3 hb4 rfl ?_
      refine go_s qd19_20 rfl ?_
      rw [← sw_sj h] at kk
      exact ga_ri qd19_21 qr19 kk
theorem qr20 : sq_ret 20 = none := by decide +kernel
theorem qc20 : sq_c 20 = 2 := by decide +kernel
-- 20: SewingPiles$Piles.putNear(II)V
def w20 (b : Nat) (T : sw_T) (p1 : Int) (p2 : Int) : Option (sw_T) :=
  (sw_r1 p1).bind fun _u =>
  if p1 < 0 then
    some (T)
  else
    (sw_r2 p1 7).bind fun _u =>
    if p1 < 7 then
      (sw_ld T (b + 11) 7 p1).bind fun v6 =>
      (sw_r1 v6).bind fun _u =>
      if v6 < 0 then
        some (T)
      else
        (sw_r2 v6 16).bind fun _u =>
        if v6 < 16 then
          (sw_rw 7 p1).bind fun u12 =>
          (sw_st T (b + 12 + 1 + u12) 16 v6 p2).bind fun T14 =>
          (sw_st T14 (b + 11) 7 p1 (v6 + 1)).bind fun T16 =>
          some (T16)
        else
          some (T)
    else
      some (T)
theorem A20 {G : sp_G} {z n : Nat} (hn : 228 ≤ n) {b : Nat} (hb : b ∈ sw_rm) {T : sw_T} {K : sw_K} {p1 : Int} {p2 : Int} {res : sw_T} {Q : sp_R → sp_M → Prop} (h : w20 b T p1 p2 = some res) (kk : Q (.inl none) (sw_M z n sw_Ft res K)) : sq_go G 20 0 [some (.ref (z + (b + 10))), some (.int (Int32.ofInt p1)), some (.int (Int32.ofInt p2)), none] [] (sw_M z n sw_Ft T K) Q := by
  unfold w20 at h
  refine go_l qd20_0 rfl ?_
  obtain ⟨_u, e1, h⟩ := sw_bind h
  by_cases hb2 : p1 < 0
  · replace h := sw_ifY hb2 h
    refine ga_zltY (t := 10) qd20_1 e1 hb2 rfl ?_
    rw [← sw_sj h] at kk
    exact ga_rv qd20_10 qr20 kk
  · replace h := sw_ifN hb2 h
    refine ga_zltN (t := 10) qd20_1 e1 hb2 rfl ?_
    refine go_l qd20_4 rfl ?_
    refine ga_k8 qd20_5 rfl ?_
    obtain ⟨_u, e3, h⟩ := sw_bind h
    by_cases hb4 : p1 < 7
    · replace h := sw_ifY hb4 h
      refine ga_cltY (t := 11) qd20_7 e3 hb4 rfl ?_
      refine go_l qd20_11 rfl ?_
      refine ga_gf (v := .ref (z + (b + 11))) qd20_12 qc20 qf2_11 (sw_rk hn hb 10 (by decide)) rfl rfl ?_
      refine go_l qd20_15 rfl ?_
      obtain ⟨v6, e5, h⟩ := sw_bind h
      refine ga_iald qd20_16 (sw_rk hn hb 11 (by decide)) e5 ?_
      refine go_l (L' := [some (.ref (z + (b + 10))), some (.int (Int32.ofInt p1)), some (.int (Int32.ofInt p2)), some (.int (Int32.ofInt v6))]) (st' := []) qd20_17 rfl ?_
      refine go_l qd20_18 rfl ?_
      obtain ⟨_u, e7, h⟩ := sw_bind h
      by_cases hb8 : v6 < 0
      · replace h := sw_ifY hb8 h
        refine ga_zltY (t := 46) qd20_19 e7 hb8 rfl ?_
        rw [← sw_sj h] at kk
        exact ga_rv qd20_46 qr20 kk
      · replace h := sw_ifN hb8 h
        refine ga_zltN (t := 46) qd20_19 e7 hb8 rfl ?_
        refine go_l qd20_22 rfl ?_
        refine ga_k8 qd20_23 rfl ?_
        obtain ⟨_u, e9, h⟩ := sw_bind h
        by_cases hb10 : v6 < 16
        · replace h := sw_ifY hb10 h
          refine ga_cgeY (t := 46) qd20_25 e9 hb10 rfl ?_
          refine go_l qd20_28 rfl ?_
          refine ga_gf (v := .ref (z + (b + 12))) qd20_29 qc20 qf2_19 (sw_rk hn hb 10 (by decide)) rfl rfl ?_
          refine go_l qd20_32 rfl ?_
          obtain ⟨u12, e11, h⟩ := sw_bind h
          refine ga_row qd20_33 (sw_rk hn hb 12 (by decide)) e11 ?_
          refine go_l qd20_34 rfl ?_
          refine go_l qd20_35 rfl ?_
          obtain ⟨T14, e13, h⟩ := sw_bind h
          refine ga_iast qd20_36 (sw_rr hn hb e11) e13 ?_
          refine go_l qd20_37 rfl ?_
          refine ga_gf (v := .ref (z + (b + 11))) qd20_38 qc20 qf2_11 (sw_rk hn hb 10 (by decide)) rfl rfl ?_
          refine go_l qd20_41 rfl ?_
          refine go_l qd20_42 rfl ?_
          refine go_s qd20_43 rfl ?_
          refine ga_iadd qd20_44 ?_
          obtain ⟨T16, e15, h⟩ := sw_bind h
          refine ga_iast qd20_45 (sw_rk hn hb 11 (by decide)) e15 ?_
          rw [← sw_sj h] at kk
          exact ga_rv qd20_46 qr20 kk
        · replace h := sw_ifN hb10 h
          refine ga_cgeN (t := 46) qd20_25 e9 hb10 rfl ?_
          rw [← sw_sj h] at kk
          exact ga_rv qd20_46 qr20 kk
    · replace h := sw_ifN hb4 h
      refine ga_cltN (t := 11) qd20_7 e3 hb4 rfl ?_
      rw [← sw_sj h] at kk
      exact ga_rv qd20_10 qr20 kk
theorem qr21 : sq_ret 21 = some .int := by decide +kernel
theorem qc21 : sq_c 21 = 2 := by decide +kernel
-- 21: SewingPiles$Piles.takeNear(I)I
def w21 (b : Nat) (T : sw_T) (p1 : Int) : Option (Int × sw_T) :=
  (sw_r1 p1).bind fun _u =>
  if p1 < 0 then
    some (((-1), T))
  else
    (sw_r2 p1 7).bind fun _u =>
    if p1 < 7 then
      (sw_ld T (b + 11) 7 p1).bind fun v6 =>
      (sw_r1 (v6 - 1)).bind fun _u =>
      if (v6 - 1) < 0 then
        some (((-1), T))
      else
        (sw_r2 (v6 - 1) 16).bind fun _u =>
        if (v6 - 1) < 16 then
          (sw_st T (b + 11) 7 p1 (v6 - 1)).bind fun T12 =>
          (sw_rw 7 p1).bind fun u14 =>
          (sw_ld T12 (b + 12 + 1 + u14) 16 (v6 - 1)).bind fun v16 =>
          some ((v16, T12))
        else
          some (((-1), T))
    else
      some (((-1), T))
theorem A21 {G : sp_G} {z n : Nat} (hn : 228 ≤ n) {b : Nat} (hb : b ∈ sw_rm) {T : sw_T} {K : sw_K} {p1 : Int} {res : Int × sw_T} {Q : sp_R → sp_M → Prop} (h : w21 b T p1 = some res) (kk : Q (.inl (some (.int (Int32.ofInt res.1)))) (sw_M z n sw_Ft res.2 K)) : sq_go G 21 0 [some (.ref (z + (b + 10))), some (.int (Int32.ofInt p1)), none] [] (sw_M z n sw_Ft T K) Q := by
  unfold w21 at h
  refine go_l qd21_0 rfl ?_
  obtain ⟨_u, e1, h⟩ := sw_bind h
  by_cases hb2 : p1 < 0
  · replace h := sw_ifY hb2 h
    refine ga_zltY (t := 10) qd21_1 e1 hb2 rfl ?_
    refine go_s qd21_10 rfl ?_
    rw [← sw_sj h] at kk
    exact ga_ri qd21_11 qr21 kk
  · replace h := sw_ifN hb2 h
    refine ga_zltN (t := 10) qd21_1 e1 hb2 rfl ?_
    refine go_l qd21_4 rfl ?_
    refine ga_k8 qd21_5 rfl ?_
    obtain ⟨_u, e3, h⟩ := sw_bind h
    by_cases hb4 : p1 < 7
    · replace h := sw_ifY hb4 h
      refine ga_cltY (t := 12) qd21_7 e3 hb4 rfl ?_
      refine go_l qd21_12 rfl ?_
      refine ga_gf (v := .ref (z + (b + 11))) qd21_13 qc21 qf2_11 (sw_rk hn hb 10 (by decide)) rfl rfl ?_
      refine go_l qd21_16 rfl ?_
      obtain ⟨v6, e5, h⟩ := sw_bind h
      refine ga_iald qd21_17 (sw_rk hn hb 11 (by decide)) e5 ?_
      refine go_s qd21_18 rfl ?_
      refine ga_isub qd21_19 ?_
      refine go_l (L' := [some (.ref (z + (b + 10))), some (.int (Int32.ofInt p1)), some (.int (Int32.ofInt (v6 - 1)))]) (st' := []) qd21_20 rfl ?_
      refine go_l qd21_21 rfl ?_
      obtain ⟨_u, e7, h⟩ := sw_bind h
      by_cases hb8 : (v6 - 1) < 0
      · replace h := sw_ifY hb8 h
        refine ga_zltY (t := 31) qd21_22 e7 hb8 rfl ?_
        refine go_s qd21_31 rfl ?_
        rw [← sw_sj h] at kk
        exact ga_ri qd21_32 qr21 kk
      · replace h := sw_ifN hb8 h
        refine ga_zltN (t := 31) qd21_22 e7 hb8 rfl ?_
        refine go_l qd21_25 rfl ?_
        refine ga_k8 qd21_26 rfl ?_
        obtain ⟨_u, e9, h⟩ := sw_bind h
        by_cases hb10 : (v6 - 1) < 16
        · replace h := sw_ifY hb10 h
          refine ga_cltY (t := 33) qd21_28 e9 hb10 rfl ?_
          refine go_l qd21_33 rfl ?_
          refine ga_gf (v := .ref (z + (b + 11))) qd21_34 qc21 qf2_11 (sw_rk hn hb 10 (by decide)) rfl rfl ?_
          refine go_l qd21_37 rfl ?_
          refine go_l qd21_38 rfl ?_
          obtain ⟨T12, e11, h⟩ := sw_bind h
          refine ga_iast qd21_39 (sw_rk hn hb 11 (by decide)) e11 ?_
          refine go_l qd21_40 rfl ?_
          refine ga_gf (v := .ref (z + (b + 12))) qd21_41 qc21 qf2_19 (sw_rk hn hb 10 (by decide)) rfl rfl ?_
          refine go_l qd21_44 rfl ?_
          obtain ⟨u14, e13, h⟩ := sw_bind h
          refine ga_row qd21_45 (sw_rk hn hb 12 (by decide)) e13 ?_
          refine go_l qd21_46 rfl ?_
          obtain ⟨v16, e15, h⟩ := sw_bind h
          refine ga_iald qd21_47 (sw_rr hn hb e13) e15 ?_
          rw [← sw_sj h] at kk
          exact ga_ri qd21_48 qr21 kk
        · replace h := sw_ifN hb10 h
          refine ga_cltN (t := 33) qd21_28 e9 hb10 rfl ?_
          refine go_s qd21_31 rfl ?_
          rw [← sw_sj h] at kk
          exact ga_ri qd21_32 qr21 kk
    · replace h := sw_ifN hb4 h
      refine ga_cltN (t := 12) qd21_7 e3 hb4 rfl ?_
      refine go_s qd21_10 rfl ?_
      rw [← sw_sj h] at kk
      exact ga_ri qd21_11 qr21 kk
theorem qr22 : sq_ret 22 = some .int := by decide +kernel
theorem qc22 : sq_c 22 = 2 := by decide +kernel
-- 22: SewingPiles$Piles.takeFar(I)I
def w22_33 (b : Nat) (l1 : Int) (l2 : Int) : Nat → sw_T → Int → Option (sw_T)
  | 0, _, _ => none
  | m + 1, T, l3 =>
    (sw_r2 l3 16).bind fun _u =>
    if l3 < 16 then
      (sw_rw 7 l1).bind fun u16 =>
      (sw_rw 7 l1).bind fun u18 =>
      (sw_ld T (b + 12 + 1 + u18) 16 l3).bind fun v20 =>
      (sw_st T (b + 12 + 1 + u16) 16 (l3 - 1) v20).bind fun T22 =>
      w22_33 b l1 l2 m T22 (l3 + 1)
    else
      some (T)
theorem B22_33 {G : sp_G} {z n : Nat} (hn : 228 ≤ n) {b : Nat} (hb : b ∈ sw_rm) {l1 : Int} {l2 : Int} {K : sw_K} {res : sw_T} {Q : sp_R → sp_M → Prop} (kk : sq_go G 22 63 [some (.ref (z + (b + 10))), some (.int (Int32.ofInt l1)), some (.int (Int32.ofInt l2)), none] [] (sw_M z n sw_Ft res K) Q) : ∀ (m : Nat) (T : sw_T) (l3 : Int), w22_33 b l1 l2 m T l3 = some res → sq_go G 22 33 [some (.ref (z + (b + 10))), some (.int (Int32.ofInt l1)), some (.int (Int32.ofInt l2)), some (.int (Int32.ofInt l3))] [] (sw_M z n sw_Ft T K) Q := by
  intro m
  induction m with
  | zero => intro T l3 h; cases h
  | succ m ih =>
    intro T l3 h
    rw [w22_33] at h
    refine go_l qd22_33 rfl ?_
    refine ga_k8 qd22_34 rfl ?_
    obtain ⟨_u, e13, h⟩ := sw_bind h
    by_cases hb14 : l3 < 16
    · replace h := sw_ifY hb14 h
      refine ga_cgeY (t := 63) qd22_36 e13 hb14 rfl ?_
      refine go_l qd22_39 rfl ?_
      refine ga_gf (v := .ref (z + (b + 12))) qd22_40 qc22 qf2_19 (sw_rk hn hb 10 (by decide)) rfl rfl ?_
      refine go_l qd22_43 rfl ?_
      obtain ⟨u16, e15, h⟩ := sw_bind h
      refine ga_row qd22_44 (sw_rk hn hb 12 (by decide)) e15 ?_
      refine go_l qd22_45 rfl ?_
      refine go_s qd22_46 rfl ?_
      refine ga_isub qd22_47 ?_
      refine go_l qd22_48 rfl ?_
      refine ga_gf (v := .ref (z + (b + 12))) qd22_49 qc22 qf2_19 (sw_rk hn hb 10 (by decide)) rfl rfl ?_
      refine go_l qd22_52 rfl ?_
      obtain ⟨u18, e17, h⟩ := sw_bind h
      refine ga_row qd22_53 (sw_rk hn hb 12 (by decide)) e17 ?_
      refine go_l qd22_54 rfl ?_
      obtain ⟨v20, e19, h⟩ := sw_bind h
      refine ga_iald qd22_55 (sw_rr hn hb e17) e19 ?_
      obtain ⟨T22, e21, h⟩ := sw_bind h
      refine ga_iast qd22_56 (sw_rr hn hb e15) e21 ?_
      refine ga_ii (L' := [some (.ref (z + (b + 10))), some (.int (Int32.ofInt l1)), some (.int (Int32.ofInt l2)), some (.int (Int32.ofInt (l3 + 1)))]) qd22_57 rfl rfl ?_
      refine ga_jp (t := 33) qd22_60 rfl ?_
      exact sq_weak (L := [some (.ref (z + (b + 10))), some (.int (Int32.ofInt l1)), some (.int (Int32.ofInt l2)), some (.int (Int32.ofInt (l3 + 1)))]) ⟨rfl, rfl, rfl, rfl, trivial⟩ (ih _ _ h)
    · replace h := sw_ifN hb14 h
      refine ga_cgeN (t := 63) qd22_36 e13 hb14 rfl ?_
      rw [← sw_sj h] at kk
      exact sq_weak (L := [some (.ref (z + (b + 10))), some (.int (Int32.ofInt l1)), some (.int (Int32.ofInt l2)), none]) ⟨rfl, rfl, rfl, trivial⟩ kk
def w22 (b : Nat) (T : sw_T) (p1 : Int) : Option (Int × sw_T) :=
  (sw_r1 p1).bind fun _u =>
  if p1 < 0 then
    some (((-1), T))
  else
    (sw_r2 p1 7).bind fun _u =>
    if p1 < 7 then
      (sw_ld T (b + 11) 7 p1).bind fun v6 =>
      (sw_r2 v6 1).bind fun _u =>
      if v6 < 1 then
        some (((-1), T))
      else
        (sw_rw 7 p1).bind fun u10 =>
        (sw_ld T (b + 12 + 1 + u10) 16 0).bind fun v12 =>
        (w22_33 b p1 v12 sw_N T 1).bind fun x23 =>
        (sw_ld x23 (b + 11) 7 p1).bind fun v26 =>
        (sw_st x23 (b + 11) 7 p1 (v26 - 1)).bind fun T28 =>
        some ((v12, T28))
    else
      some (((-1), T))
theorem A22 {G : sp_G} {z n : Nat} (hn : 228 ≤ n) {b : Nat} (hb : b ∈ sw_rm) {T : sw_T} {K : sw_K} {p1 : Int} {res : Int × sw_T} {Q : sp_R → sp_M → Prop} (h : w22 b T p1 = some res) (kk : Q (.inl (some (.int (Int32.ofInt res.1)))) (sw_M z n sw_Ft res.2 K)) : sq_go G 22 0 [some (.ref (z + (b + 10))), some (.int (Int32.ofInt p1)), none, none] [] (sw_M z n sw_Ft T K) Q := by
  unfold w22 at h
  refine go_l qd22_0 rfl ?_
  obtain ⟨_u, e1, h⟩ := sw_bind h
  by_cases hb2 : p1 < 0
  · replace h := sw_ifY hb2 h
    refine ga_zltY (t := 20) qd22_1 e1 hb2 rfl ?_
    refine go_s qd22_20 rfl ?_
    rw [← sw_sj h] at kk
    exact ga_ri qd22_21 qr22 kk
  · replace h := sw_ifN hb2 h
    refine ga_zltN (t := 20) qd22_1 e1 hb2 rfl ?_
    refine go_l qd22_4 rfl ?_
    refine ga_k8 qd22_5 rfl ?_
    obtain ⟨_u, e3, h⟩ := sw_bind h
    by_cases hb4 : p1 < 7
    · replace h := sw_ifY hb4 h
      refine ga_cgeY (t := 20) qd22_7 e3 hb4 rfl ?_
      refine go_l qd22_10 rfl ?_
      refine ga_gf (v := .ref (z + (b + 11))) qd22_11 qc22 qf2_11 (sw_rk hn hb 10 (by decide)) rfl rfl ?_
      refine go_l qd22_14 rfl ?_
      obtain ⟨v6, e5, h⟩ := sw_bind h
      refine ga_iald qd22_15 (sw_rk hn hb 11 (by decide)) e5 ?_
      refine go_s qd22_16 rfl ?_
      obtain ⟨_u, e7, h⟩ := sw_bind h
      by_cases hb8 : v6 < 1
      · replace h := sw_ifY hb8 h
        refine ga_cgeY (t := 22) qd22_17 e7 hb8 rfl ?_
        refine go_s qd22_20 rfl ?_
        rw [← sw_sj h] at kk
        exact ga_ri qd22_21 qr22 kk
      · replace h := sw_ifN hb8 h
        refine ga_cgeN (t := 22) qd22_17 e7 hb8 rfl ?_
        refine go_l qd22_22 rfl ?_
        refine ga_gf (v := .ref (z + (b + 12))) qd22_23 qc22 qf2_19 (sw_rk hn hb 10 (by decide)) rfl rfl ?_
        refine go_l qd22_26 rfl ?_
        obtain ⟨u10, e9, h⟩ := sw_bind h
        refine ga_row qd22_27 (sw_rk hn hb 12 (by decide)) e9 ?_
        refine go_s qd22_28 rfl ?_
        obtain ⟨v12, e11, h⟩ := sw_bind h
        refine ga_iald qd22_29 (sw_rr hn hb e9) e11 ?_
        refine go_l (L' := [some (.ref (z + (b + 10))), some (.int (Int32.ofInt p1)), some (.int (Int32.ofInt v12)), none]) (st' := []) qd22_30 rfl ?_
        refine go_s qd22_31 rfl ?_
        refine go_l (L' := [some (.ref (z + (b + 10))), some (.int (Int32.ofInt p1)), some (.int (Int32.ofInt v12)), some (.int (Int32.ofInt 1))]) (st' := []) qd22_32 rfl ?_
        obtain ⟨x23, e24, h⟩ := sw_bind h
        refine sq_weak (L := [some (.ref (z + (b + 10))), some (.int (Int32.ofInt p1)), some (.int (Int32.ofInt v12)), some (.int (Int32.ofInt 1))]) ⟨rfl, rfl, rfl, rfl, trivial⟩ (B22_33 hn hb (res := x23) ?_ _ _ _ e24)
        refine go_l qd22_63 rfl ?_
        refine ga_gf (v := .ref (z + (b + 11))) qd22_64 qc22 qf2_11 (sw_rk hn hb 10 (by decide)) rfl rfl ?_
        refine go_l qd22_67 rfl ?_
        refine go_s qd22_68 rfl ?_
        obtain ⟨v26, e25, h⟩ := sw_bind h
        refine ga_iald qd22_69 (sw_rk hn hb 11 (by decide)) e25 ?_
        refine go_s qd22_70 rfl ?_
        refine ga_isub qd22_71 ?_
        obtain ⟨T28, e27, h⟩ := sw_bind h
        refine ga_iast qd22_72 (sw_rk hn hb 11 (by decide)) e27 ?_
        refine go_l qd22_73 rfl ?_
        rw [← sw_sj h] at kk
        exact ga_ri qd22_74 qr22 kk
    · replace h := sw_ifN hb4 h
      refine ga_cgeN (t := 20) qd22_7 e3 hb4 rfl ?_
      refine go_s qd22_20 rfl ?_
      rw [← sw_sj h] at kk
      exact ga_ri qd22_21 qr22 kk
