/-! ===== the constructors ===== -/
theorem qo16_3 : sw_obk 16 3 = true := by decide +kernel
theorem qg2_11 : sp_fd sp_flT 2 11 = some (2, 0) := by decide +kernel
theorem qI16 : sq_ini 16 = true := by decide +kernel
theorem qc16 : sq_c 16 = 2 := by decide +kernel
theorem qm2_17 : sp_fd sp_muT 2 17 = some () := by decide +kernel
theorem qg2_19 : sp_fd sp_flT 2 19 = some (2, 1) := by decide +kernel
theorem qr16 : sq_ret 16 = none := by decide +kernel
theorem qo49_3 : sw_obk 49 3 = true := by decide +kernel
theorem qg4_9 : sp_fd sp_flT 4 9 = some (4, 1) := by decide +kernel
theorem qI49 : sq_ini 49 = true := by decide +kernel
theorem qc49 : sq_c 49 = 4 := by decide +kernel
theorem qg4_15 : sp_fd sp_flT 4 15 = some (4, 2) := by decide +kernel
theorem qg4_18 : sp_fd sp_flT 4 18 = some (4, 3) := by decide +kernel
theorem qr49 : sq_ret 49 = none := by decide +kernel
theorem qo23_3 : sw_obk 23 3 = true := by decide +kernel
theorem qc23 : sq_c 23 = 3 := by decide +kernel
theorem qg3_15 : sp_fd sp_flT 3 15 = some (3, 4) := by decide +kernel
theorem qI23 : sq_ini 23 = true := by decide +kernel
theorem qg3_19 : sp_fd sp_flT 3 19 = some (3, 5) := by decide +kernel
theorem qg3_22 : sp_fd sp_flT 3 22 = some (3, 6) := by decide +kernel
theorem qg3_25 : sp_fd sp_flT 3 25 = some (3, 7) := by decide +kernel
theorem qg3_28 : sp_fd sp_flT 3 28 = some (3, 8) := by decide +kernel
theorem qg3_32 : sp_fd sp_flT 3 32 = some (3, 9) := by decide +kernel
theorem qg3_35 : sp_fd sp_flT 3 35 = some (3, 10) := by decide +kernel
theorem qg3_38 : sp_fd sp_flT 3 38 = some (3, 11) := by decide +kernel
theorem qg3_41 : sp_fd sp_flT 3 41 = some (3, 12) := by decide +kernel
theorem qw3_44 : sp_fd sp_nwT 3 44 = some 2 := by decide +kernel
theorem qk23_46 : sw_ck 23 46 16 2 0 2 1 = true := by decide +kernel
theorem qg3_47 : sp_fd sp_flT 3 47 = some (3, 13) := by decide +kernel
theorem qw3_51 : sp_fd sp_nwT 3 51 = some 4 := by decide +kernel
theorem qk23_53 : sw_ck 23 53 49 2 0 4 1 = true := by decide +kernel
theorem qg3_54 : sp_fd sp_flT 3 54 = some (3, 14) := by decide +kernel
theorem qr23 : sq_ret 23 = none := by decide +kernel
theorem qo0_3 : sw_obk 0 3 = true := by decide +kernel
theorem qa0_9 : sp_fd sp_anT 0 9 = some () := by decide +kernel
theorem qc0 : sq_c 0 = 0 := by decide +kernel
theorem qg0_11 : sp_fd sp_flT 0 11 = some (0, 0) := by decide +kernel
theorem qI0 : sq_ini 0 = true := by decide +kernel
theorem qw0_9 : sp_fd sp_nwT 0 9 = some 3 := by decide +kernel
theorem qk0_17 : sw_ck 0 17 23 2 0 3 2 = true := by decide +kernel
theorem qr0 : sq_ret 0 = none := by decide +kernel
theorem qo4_3 : sw_obk 4 3 = true := by decide +kernel
theorem qg1_9 : sp_fd sp_flT 1 9 = some (1, 0) := by decide +kernel
theorem qI4 : sq_ini 4 = true := by decide +kernel
theorem qc4 : sq_c 4 = 1 := by decide +kernel
theorem qr4 : sq_ret 4 = none := by decide +kernel
theorem qo58_1 : sw_obk 58 1 = true := by decide +kernel
theorem qw5_7 : sp_fd sp_nwT 5 7 = some 3 := by decide +kernel
theorem qc58 : sq_c 58 = 5 := by decide +kernel
theorem qk58_9 : sw_ck 58 9 23 2 0 3 2 = true := by decide +kernel
theorem qg5_10 : sp_fd sp_flT 5 10 = some (5, 0) := by decide +kernel
theorem qI58 : sq_ini 58 = true := by decide +kernel
theorem qg5_16 : sp_fd sp_flT 5 16 = some (5, 1) := by decide +kernel
theorem qg5_19 : sp_fd sp_flT 5 19 = some (5, 2) := by decide +kernel
theorem qw5_22 : sp_fd sp_nwT 5 22 = some 0 := by decide +kernel
theorem qk58_24 : sw_ck 58 24 0 2 0 0 2 = true := by decide +kernel
theorem qg5_25 : sp_fd sp_flT 5 25 = some (5, 3) := by decide +kernel
theorem qw5_29 : sp_fd sp_nwT 5 29 = some 1 := by decide +kernel
theorem qk58_31 : sw_ck 58 31 4 2 0 1 1 = true := by decide +kernel
theorem qg5_32 : sp_fd sp_flT 5 32 = some (5, 4) := by decide +kernel
theorem qr58 : sq_ret 58 = none := by decide +kernel
theorem qo94_1 : sw_obk 94 1 = true := by decide +kernel
theorem qg6_7 : sp_fd sp_flT 6 7 = some (6, 1) := by decide +kernel
theorem qI94 : sq_ini 94 = true := by decide +kernel
theorem qc94 : sq_c 94 = 6 := by decide +kernel
theorem qg6_13 : sp_fd sp_flT 6 13 = some (6, 2) := by decide +kernel
theorem qg6_16 : sp_fd sp_flT 6 16 = some (6, 3) := by decide +kernel
theorem qg6_19 : sp_fd sp_flT 6 19 = some (6, 5) := by decide +kernel
theorem qg6_22 : sp_fd sp_flT 6 22 = some (6, 7) := by decide +kernel
theorem qg6_25 : sp_fd sp_flT 6 25 = some (6, 12) := by decide +kernel
theorem qk94_32 : sw_ck 94 32 99 0 3 6 4 = true := by decide +kernel
theorem qr94 : sq_ret 94 = none := by decide +kernel
theorem qw7_8 : sp_fd sp_nwT 7 8 = some 5 := by decide +kernel
theorem qc187 : sq_c 187 = 7 := by decide +kernel
theorem qk187_72 : sw_ck 187 72 58 2 0 5 1 = true := by decide +kernel
theorem qw7_73 : sp_fd sp_nwT 7 73 = some 6 := by decide +kernel
theorem qk187_75 : sw_ck 187 75 94 2 0 6 1 = true := by decide +kernel
theorem C99 {G : sp_G} {z n : Nat} (hn : 228 ≤ n) {F : sw_F} (hF : F 221 1 = true) {T : sw_T} {K : sw_K} {p1 : Int} {p2 : Int} {p3 : Int} {res : sw_T} {Q : sp_R → sp_M → Prop} (h : w99 T p1 p2 p3 = some res) (kk : Q (.inl none) (sw_M z n F res K)) : sq_go G 99 0 [some (.ref (z + 221)), some (.int (Int32.ofInt p1)), some (.int (Int32.ofInt p2)), some (.int (Int32.ofInt p3))] [] (sw_M z n F T K) Q := by
  unfold w99 at h
  refine go_l qd99_0 rfl ?_
  refine ga_gf (v := .ref (z + 222)) qd99_1 qc99 qf6_7 (sw_sl hn (by decide)) rfl (by simp [sw_fd, sw_rf, hF]) ?_
  refine ga_k8 qd99_4 rfl ?_
  refine ga_k8 qd99_6 rfl ?_
  refine go_l qd99_8 rfl ?_
  refine ga_imul qd99_9 ?_
  refine ga_iadd qd99_10 ?_
  refine go_l qd99_11 rfl ?_
  refine ga_iadd qd99_12 ?_
  refine go_l qd99_13 rfl ?_
  obtain ⟨T2, e1, h⟩ := sw_bind h
  refine ga_iast qd99_14 (sw_sl hn (by decide)) e1 ?_
  rw [← sw_sj h] at kk
  exact ga_rv qd99_15 qr99 kk
-- 16: SewingPiles$Piles.<init>()V
def f16 (b : Nat) (F : sw_F) : sw_F := (sw_Fs (sw_Fs F (b + 10) 0) (b + 10) 1)
def t16 (b : Nat) (T : sw_T) : sw_T := (sw_Tm (sw_Tn T (b + 11)) (b + 12) 7)
theorem C16 {G : sp_G} {z cl sl : Nat} {b : Nat} (hb : b ∈ sw_rm) {F : sw_F} {T : sw_T} {Q : sp_R → sp_M → Prop} (kk : Q (.inl none) (sw_M z (b + 20) (f16 b F) (t16 b T) (some (z + (b + 20)), cl + 9, sl + 126))) : sq_go G 16 0 [some (.ref (z + (b + 10)))] [] (sw_M z (b + 11) F T (some (z + (b + 11)), cl, sl)) Q := by
  refine go_l qd16_0 rfl ?_
  refine ga_ob qd16_1 qo16_3 (Nat.le_of_ble_eq_true rfl) ?_
  refine go_l qd16_4 rfl ?_
  refine ga_k8 qd16_5 rfl ?_
  refine ga_neax (m := 7) (n' := b + 12) 0 (by decide) rfl qd16_7 (by decide) (sw_rL hb 11 (by decide)) rfl ?_
  refine ga_pr (q := z + (b + 11)) qd16_9 qc16 qg2_11 (sw_rc hb 10 (by decide)) rfl (fun f t => ⟨rfl, Nat.le_of_ble_eq_true rfl⟩) rfl ⟨qI16, rfl⟩ ?_
  refine go_l qd16_12 rfl ?_
  refine ga_k8 qd16_13 rfl ?_
  refine ga_k8 qd16_15 rfl ?_
  refine ga_nem (m := 7) (k2 := 16) (n' := b + 20) qd16_17 qc16 qm2_17 (by decide) (by decide) (sw_rL hb 12 (by decide)) (fun i hi => by rw [show b + 12 + 1 + i = b + (13 + i) by omega]; exact sw_rL hb _ ((by decide : ∀ i, i < 7 → 13 + i < 24 ∧ sw_rs[13 + i]? = some (0, 16)) i hi)) rfl ?_
  refine ga_pr (q := z + (b + 12)) qd16_21 qc16 qg2_19 (sw_rc hb 10 (by decide)) rfl (fun f t => ⟨rfl, Nat.le_of_ble_eq_true rfl⟩) rfl ⟨qI16, rfl⟩ ?_
  exact ga_rv qd16_24 qr16 kk
-- 49: SewingPiles$Shirts.<init>()V
def f49 (b : Nat) (F : sw_F) : sw_F := (sw_Fs (sw_Fs (sw_Fs F (b + 20) 1) (b + 20) 2) (b + 20) 3)
def t49 (b : Nat) (T : sw_T) : sw_T := (sw_Tn (sw_Tn (sw_Tn T (b + 21)) (b + 22)) (b + 23))
theorem C49 {G : sp_G} {z cl sl : Nat} {b : Nat} (hb : b ∈ sw_rm) {F : sw_F} {T : sw_T} {Q : sp_R → sp_M → Prop} (kk : Q (.inl none) (sw_M z (b + 24) (f49 b F) (t49 b T) (some (z + (b + 24)), cl + 3, sl + 360))) : sq_go G 49 0 [some (.ref (z + (b + 20)))] [] (sw_M z (b + 21) F T (some (z + (b + 21)), cl, sl)) Q := by
  refine go_l qd49_0 rfl ?_
  refine ga_ob qd49_1 qo49_3 (Nat.le_of_ble_eq_true rfl) ?_
  refine go_l qd49_4 rfl ?_
  refine ga_k8 qd49_5 rfl ?_
  refine ga_neax (m := 120) (n' := b + 22) 0 (by decide) rfl qd49_7 (by decide) (sw_rL hb 21 (by decide)) rfl ?_
  refine ga_pr (q := z + (b + 21)) qd49_9 qc49 qg4_9 (sw_rc hb 20 (by decide)) rfl (fun f t => ⟨rfl, Nat.le_of_ble_eq_true rfl⟩) rfl ⟨qI49, rfl⟩ ?_
  refine go_l qd49_12 rfl ?_
  refine ga_k8 qd49_13 rfl ?_
  refine ga_neax (m := 120) (n' := b + 23) 0 (by decide) rfl qd49_15 (by decide) (sw_rL hb 22 (by decide)) rfl ?_
  refine ga_pr (q := z + (b + 22)) qd49_17 qc49 qg4_15 (sw_rc hb 20 (by decide)) rfl (fun f t => ⟨rfl, Nat.le_of_ble_eq_true rfl⟩) rfl ⟨qI49, rfl⟩ ?_
  refine go_l qd49_20 rfl ?_
  refine ga_k8 qd49_21 rfl ?_
  refine ga_neax (m := 120) (n' := b + 24) 0 (by decide) rfl qd49_23 (by decide) (sw_rL hb 23 (by decide)) rfl ?_
  refine ga_pr (q := z + (b + 23)) qd49_25 qc49 qg4_18 (sw_rc hb 20 (by decide)) rfl (fun f t => ⟨rfl, Nat.le_of_ble_eq_true rfl⟩) rfl ⟨qI49, rfl⟩ ?_
  exact ga_rv qd49_28 qr49 kk
-- 23: SewingPiles$Room.<init>()V
def f23 (b : Nat) (F : sw_F) : sw_F := (sw_Fs (f49 b (sw_Fn (sw_Fs (f16 b (sw_Fn (sw_Fs (sw_Fs (sw_Fs (sw_Fs (sw_Fs (sw_Fs (sw_Fs (sw_Fs (sw_Fs F b 4) b 5) b 6) b 7) b 8) b 9) b 10) b 11) b 12) (b + 10))) b 13) (b + 20))) b 14)
def t23 (b : Nat) (T : sw_T) : sw_T := (sw_up (sw_up (sw_up (sw_up (sw_up (sw_up (sw_up (sw_up (sw_up (sw_up (sw_up (sw_up (sw_up (sw_up (t49 b (sw_Tn (t16 b (sw_Tn (sw_Tn (sw_Tn (sw_Tn (sw_Tn (sw_Tn (sw_Tn (sw_Tn (sw_Tn (sw_up (sw_up (sw_up (sw_Tn (sw_up T b 1 2) (b + 1)) (b + 1) 0 20) (b + 1) 1 0) (b + 1) 2 3) (b + 2)) (b + 3)) (b + 4)) (b + 5)) (b + 6)) (b + 7)) (b + 8)) (b + 9)) (b + 10))) (b + 20))) (b + 2) 0 1) (b + 3) 0 (-1)) (b + 2) (0 + 1) 1) (b + 3) (0 + 1) (-1)) (b + 2) ((0 + 1) + 1) 1) (b + 3) ((0 + 1) + 1) (-1)) (b + 2) (((0 + 1) + 1) + 1) 1) (b + 3) (((0 + 1) + 1) + 1) (-1)) (b + 2) ((((0 + 1) + 1) + 1) + 1) 1) (b + 3) ((((0 + 1) + 1) + 1) + 1) (-1)) (b + 2) (((((0 + 1) + 1) + 1) + 1) + 1) 1) (b + 3) (((((0 + 1) + 1) + 1) + 1) + 1) (-1)) (b + 2) ((((((0 + 1) + 1) + 1) + 1) + 1) + 1) 1) (b + 3) ((((((0 + 1) + 1) + 1) + 1) + 1) + 1) (-1))
theorem C23 {G : sp_G} {z cl sl : Nat} {b : Nat} (hb : b ∈ sw_rm) {F : sw_F} {T : sw_T} {Q : sp_R → sp_M → Prop} (kk : Q (.inl none) (sw_M z (b + 24) (f23 b F) (t23 b T) (some (z + (b + 24)), cl + 23, sl + 551))) : sq_go G 23 0 [some (.ref (z + b)), none] [] (sw_M z (b + 1) F T (some (z + (b + 1)), cl, sl)) Q := by
  refine go_l qd23_0 rfl ?_
  refine ga_ob qd23_1 qo23_3 (Nat.le_of_ble_eq_true rfl) ?_
  refine go_l qd23_4 rfl ?_
  refine go_s qd23_5 rfl ?_
  refine ga_pfi qd23_6 qc23 qg3_9 (sw_rc0 hb (by decide)) rfl qi3_1 rfl ?_
  refine go_l qd23_9 rfl ?_
  refine go_s qd23_10 rfl ?_
  refine ga_neax (m := 3) (n' := b + 2) 0 (by decide) rfl qd23_11 (by decide) (sw_rL hb 1 (by decide)) rfl ?_
  refine go_s qd23_13 rfl ?_
  refine go_s qd23_14 rfl ?_
  refine ga_k8 qd23_15 rfl ?_
  refine ga_iast (m := 3) qd23_17 (sw_rc hb 1 (by decide)) (show sw_st _ _ _ _ _ = some (sw_up _ _ _ _) from if_pos (by decide)) ?_
  refine go_s qd23_18 rfl ?_
  refine go_s qd23_19 rfl ?_
  refine go_s qd23_20 rfl ?_
  refine ga_iast (m := 3) qd23_21 (sw_rc hb 1 (by decide)) (show sw_st _ _ _ _ _ = some (sw_up _ _ _ _) from if_pos (by decide)) ?_
  refine go_s qd23_22 rfl ?_
  refine go_s qd23_23 rfl ?_
  refine go_s qd23_24 rfl ?_
  refine ga_iast (m := 3) qd23_25 (sw_rc hb 1 (by decide)) (show sw_st _ _ _ _ _ = some (sw_up _ _ _ _) from if_pos (by decide)) ?_
  refine ga_pr (q := z + (b + 1)) qd23_26 qc23 qg3_15 (sw_rc0 hb (by decide)) rfl (fun f t => ⟨rfl, Nat.le_of_ble_eq_true rfl⟩) rfl ⟨qI23, rfl⟩ ?_
  refine go_l qd23_29 rfl ?_
  refine ga_k8 qd23_30 rfl ?_
  refine ga_neax (m := 7) (n' := b + 3) 0 (by decide) rfl qd23_32 (by decide) (sw_rL hb 2 (by decide)) rfl ?_
  refine ga_pr (q := z + (b + 2)) qd23_34 qc23 qg3_19 (sw_rc0 hb (by decide)) rfl (fun f t => ⟨rfl, Nat.le_of_ble_eq_true rfl⟩) rfl ⟨qI23, rfl⟩ ?_
  refine go_l qd23_37 rfl ?_
  refine ga_k8 qd23_38 rfl ?_
  refine ga_neax (m := 7) (n' := b + 4) 0 (by decide) rfl qd23_40 (by decide) (sw_rL hb 3 (by decide)) rfl ?_
  refine ga_pr (q := z + (b + 3)) qd23_42 qc23 qg3_22 (sw_rc0 hb (by decide)) rfl (fun f t => ⟨rfl, Nat.le_of_ble_eq_true rfl⟩) rfl ⟨qI23, rfl⟩ ?_
  refine go_l qd23_45 rfl ?_
  refine ga_k8 qd23_46 rfl ?_
  refine ga_neax (m := 7) (n' := b + 5) 0 (by decide) rfl qd23_48 (by decide) (sw_rL hb 4 (by decide)) rfl ?_
  refine ga_pr (q := z + (b + 4)) qd23_50 qc23 qg3_25 (sw_rc0 hb (by decide)) rfl (fun f t => ⟨rfl, Nat.le_of_ble_eq_true rfl⟩) rfl ⟨qI23, rfl⟩ ?_
  refine go_l qd23_53 rfl ?_
  refine ga_k8 qd23_54 rfl ?_
  refine ga_neax (m := 7) (n' := b + 6) 1 (by decide) rfl qd23_56 (by decide) (sw_rL hb 5 (by decide)) rfl ?_
  refine ga_pr (q := z + (b + 5)) qd23_58 qc23 qg3_28 (sw_rc0 hb (by decide)) rfl (fun f t => ⟨rfl, Nat.le_of_ble_eq_true rfl⟩) rfl ⟨qI23, rfl⟩ ?_
  refine go_l qd23_61 rfl ?_
  refine ga_k8 qd23_62 rfl ?_
  refine ga_neax (m := 7) (n' := b + 7) 0 (by decide) rfl qd23_64 (by decide) (sw_rL hb 6 (by decide)) rfl ?_
  refine ga_pr (q := z + (b + 6)) qd23_66 qc23 qg3_32 (sw_rc0 hb (by decide)) rfl (fun f t => ⟨rfl, Nat.le_of_ble_eq_true rfl⟩) rfl ⟨qI23, rfl⟩ ?_
  refine go_l qd23_69 rfl ?_
  refine ga_k8 qd23_70 rfl ?_
  refine ga_neax (m := 7) (n' := b + 8) 0 (by decide) rfl qd23_72 (by decide) (sw_rL hb 7 (by decide)) rfl ?_
  refine ga_pr (q := z + (b + 7)) qd23_74 qc23 qg3_35 (sw_rc0 hb (by decide)) rfl (fun f t => ⟨rfl, Nat.le_of_ble_eq_true rfl⟩) rfl ⟨qI23, rfl⟩ ?_
  refine go_l qd23_77 rfl ?_
  refine ga_k8 qd23_78 rfl ?_
  refine ga_neax (m := 7) (n' := b + 9) 0 (by decide) rfl qd23_80 (by decide) (sw_rL hb 8 (by decide)) rfl ?_
  refine ga_pr (q := z + (b + 8)) qd23_82 qc23 qg3_38 (sw_rc0 hb (by decide)) rfl (fun f t => ⟨rfl, Nat.le_of_ble_eq_true rfl⟩) rfl ⟨qI23, rfl⟩ ?_
  refine go_l qd23_85 rfl ?_
  refine ga_k8 qd23_86 rfl ?_
  refine ga_neax (m := 7) (n' := b + 10) 0 (by decide) rfl qd23_88 (by decide) (sw_rL hb 9 (by decide)) rfl ?_
  refine ga_pr (q := z + (b + 9)) qd23_90 qc23 qg3_41 (sw_rc0 hb (by decide)) rfl (fun f t => ⟨rfl, Nat.le_of_ble_eq_true rfl⟩) rfl ⟨qI23, rfl⟩ ?_
  refine go_l qd23_93 rfl ?_
  refine ga_new (n' := b + 11) qd23_94 qc23 qw3_44 (by decide) (sw_rL hb 10 (by decide)) rfl ?_
  refine go_s qd23_97 rfl ?_
  refine ga_kc (a := (b + 10)) (as := []) (rest := [.ref (z + (b + 10)), .ref (z + b)]) qd23_98 qk23_46 rfl rfl (Nat.le_of_ble_eq_true rfl) (Nat.le_of_ble_eq_true rfl) rfl (C16 (b := b) hb ?_)
  show sq_go G 23 101 [some (.ref (z + b)), none] [.ref (z + (b + 10)), .ref (z + b)] (sw_M z (b + 20) _ _ (some (z + (b + 20)), cl + 19, sl + 187)) Q
  refine ga_pr (q := z + (b + 10)) qd23_101 qc23 qg3_47 (sw_rc0 hb (by decide)) rfl (fun f t => ⟨rfl, Nat.le_of_ble_eq_true rfl⟩) rfl ⟨qI23, rfl⟩ ?_
  refine go_l qd23_104 rfl ?_
  refine ga_new (n' := b + 21) qd23_105 qc23 qw3_51 (by decide) (sw_rL hb 20 (by decide)) rfl ?_
  refine go_s qd23_108 rfl ?_
  refine ga_kc (a := (b + 20)) (as := []) (rest := [.ref (z + (b + 20)), .ref (z + b)]) qd23_109 qk23_53 rfl rfl (Nat.le_of_ble_eq_true rfl) (Nat.le_of_ble_eq_true rfl) rfl (C49 (b := b) hb ?_)
  show sq_go G 23 112 [some (.ref (z + b)), none] [.ref (z + (b + 20)), .ref (z + b)] (sw_M z (b + 24) _ _ (some (z + (b + 24)), cl + 23, sl + 551)) Q
  refine ga_pr (q := z + (b + 20)) qd23_112 qc23 qg3_54 (sw_rc0 hb (by decide)) rfl (fun f t => ⟨rfl, Nat.le_of_ble_eq_true rfl⟩) rfl ⟨qI23, rfl⟩ ?_
  refine go_s qd23_115 rfl ?_
  refine go_l (L' := [some (.ref (z + b)), some (.int (Int32.ofInt 0))]) (st' := []) qd23_116 rfl ?_
  refine go_l qd23_117 rfl ?_
  refine ga_k8 qd23_118 rfl ?_
  refine ga_cgeY (t := 143) (u := ()) qd23_120 (by decide) (by decide) rfl ?_
  refine go_l qd23_123 rfl ?_
  refine ga_gf (v := .ref (z + (b + 2))) qd23_124 qc23 qf3_19 (sw_rc0 hb (by decide)) rfl (by simp [sw_fd, sw_rf, sw_Fs, sw_fs, sw_Fn, f16, f49]) ?_
  refine go_l qd23_127 rfl ?_
  refine go_s qd23_128 rfl ?_
  refine ga_iast (m := 7) qd23_129 (sw_rc hb 2 (by decide)) (show sw_st _ _ _ _ _ = some (sw_up _ _ _ _) from if_pos (by decide)) ?_
  refine go_l qd23_130 rfl ?_
  refine ga_gf (v := .ref (z + (b + 3))) qd23_131 qc23 qf3_22 (sw_rc0 hb (by decide)) rfl (by simp [sw_fd, sw_rf, sw_Fs, sw_fs, sw_Fn, f16, f49]) ?_
  refine go_l qd23_134 rfl ?_
  refine go_s qd23_135 rfl ?_
  refine ga_iast (m := 7) qd23_136 (sw_rc hb 3 (by decide)) (show sw_st _ _ _ _ _ = some (sw_up _ _ _ _) from if_pos (by decide)) ?_
  refine ga_ii (L' := [some (.ref (z + b)), some (.int (Int32.ofInt (0 + 1)))]) qd23_137 rfl rfl ?_
  refine ga_jp (t := 117) qd23_140 rfl ?_
  refine go_l qd23_117 rfl ?_
  refine ga_k8 qd23_118 rfl ?_
  refine ga_cgeY (t := 143) (u := ()) qd23_120 (by decide) (by decide) rfl ?_
  refine go_l qd23_123 rfl ?_
  refine ga_gf (v := .ref (z + (b + 2))) qd23_124 qc23 qf3_19 (sw_rc0 hb (by decide)) rfl (by simp [sw_fd, sw_rf, sw_Fs, sw_fs, sw_Fn, f16, f49]) ?_
  refine go_l qd23_127 rfl ?_
  refine go_s qd23_128 rfl ?_
  refine ga_iast (m := 7) qd23_129 (sw_rc hb 2 (by decide)) (show sw_st _ _ _ _ _ = some (sw_up _ _ _ _) from if_pos (by decide)) ?_
  refine go_l qd23_130 rfl ?_
  refine ga_gf (v := .ref (z + (b + 3))) qd23_131 qc23 qf3_22 (sw_rc0 hb (by decide)) rfl (by simp [sw_fd, sw_rf, sw_Fs, sw_fs, sw_Fn, f16, f49]) ?_
  refine go_l qd23_134 rfl ?_
  refine go_s qd23_135 rfl ?_
  refine ga_iast (m := 7) qd23_136 (sw_rc hb 3 (by decide)) (show sw_st _ _ _ _ _ = some (sw_up _ _ _ _) from if_pos (by decide)) ?_
  refine ga_ii (L' := [some (.ref (z + b)), some (.int (Int32.ofInt ((0 + 1) + 1)))]) qd23_137 rfl rfl ?_
  refine ga_jp (t := 117) qd23_140 rfl ?_
  refine go_l qd23_117 rfl ?_
  refine ga_k8 qd23_118 rfl ?_
  refine ga_cgeY (t := 143) (u := ()) qd23_120 (by decide) (by decide) rfl ?_
  refine go_l qd23_123 rfl ?_
  refine ga_gf (v := .ref (z + (b + 2))) qd23_124 qc23 qf3_19 (sw_rc0 hb (by decide)) rfl (by simp [sw_fd, sw_rf, sw_Fs, sw_fs, sw_Fn, f16, f49]) ?_
  refine go_l qd23_127 rfl ?_
  refine go_s qd23_128 rfl ?_
  refine ga_iast (m := 7) qd23_129 (sw_rc hb 2 (by decide)) (show sw_st _ _ _ _ _ = some (sw_up _ _ _ _) from if_pos (by decide)) ?_
  refine go_l qd23_130 rfl ?_
  refine ga_gf (v := .ref (z + (b + 3))) qd23_131 qc23 qf3_22 (sw_rc0 hb (by decide)) rfl (by simp [sw_fd, sw_rf, sw_Fs, sw_fs, sw_Fn, f16, f49]) ?_
  refine go_l qd23_134 rfl ?_
  refine go_s qd23_135 rfl ?_
  refine ga_iast (m := 7) qd23_136 (sw_rc hb 3 (by decide)) (show sw_st _ _ _ _ _ = some (sw_up _ _ _ _) from if_pos (by decide)) ?_
  refine ga_ii (L' := [some (.ref (z + b)), some (.int (Int32.ofInt (((0 + 1) + 1) + 1)))]) qd23_137 rfl rfl ?_
  refine ga_jp (t := 117) qd23_140 rfl ?_
  refine go_l qd23_117 rfl ?_
  refine ga_k8 qd23_118 rfl ?_
  refine ga_cgeY (t := 143) (u := ()) qd23_120 (by decide) (by decide) rfl ?_
  refine go_l qd23_123 rfl ?_
  refine ga_gf (v := .ref (z + (b + 2))) qd23_124 qc23 qf3_19 (sw_rc0 hb (by decide)) rfl (by simp [sw_fd, sw_rf, sw_Fs, sw_fs, sw_Fn, f16, f49]) ?_
  refine go_l qd23_127 rfl ?_
  refine go_s qd23_128 rfl ?_
  refine ga_iast (m := 7) qd23_129 (sw_rc hb 2 (by decide)) (show sw_st _ _ _ _ _ = some (sw_up _ _ _ _) from if_pos (by decide)) ?_
  refine go_l qd23_130 rfl ?_
  refine ga_gf (v := .ref (z + (b + 3))) qd23_131 qc23 qf3_22 (sw_rc0 hb (by decide)) rfl (by simp [sw_fd, sw_rf, sw_Fs, sw_fs, sw_Fn, f16, f49]) ?_
  refine go_l qd23_134 rfl ?_
  refine go_s qd23_135 rfl ?_
  refine ga_iast (m := 7) qd23_136 (sw_rc hb 3 (by decide)) (show sw_st _ _ _ _ _ = some (sw_up _ _ _ _) from if_pos (by decide)) ?_
  refine ga_ii (L' := [some (.ref (z + b)), some (.int (Int32.ofInt ((((0 + 1) + 1) + 1) + 1)))]) qd23_137 rfl rfl ?_
  refine ga_jp (t := 117) qd23_140 rfl ?_
  refine go_l qd23_117 rfl ?_
  refine ga_k8 qd23_118 rfl ?_
  refine ga_cgeY (t := 143) (u := ()) qd23_120 (by decide) (by decide) rfl ?_
  refine go_l qd23_123 rfl ?_
  refine ga_gf (v := .ref (z + (b + 2))) qd23_124 qc23 qf3_19 (sw_rc0 hb (by decide)) rfl (by simp [sw_fd, sw_rf, sw_Fs, sw_fs, sw_Fn, f16, f49]) ?_
  refine go_l qd23_127 rfl ?_
  refine go_s qd23_128 rfl ?_
  refine ga_iast (m := 7) qd23_129 (sw_rc hb 2 (by decide)) (show sw_st _ _ _ _ _ = some (sw_up _ _ _ _) from if_pos (by decide)) ?_
  refine go_l qd23_130 rfl ?_
  refine ga_gf (v := .ref (z + (b + 3))) qd23_131 qc23 qf3_22 (sw_rc0 hb (by decide)) rfl (by simp [sw_fd, sw_rf, sw_Fs, sw_fs, sw_Fn, f16, f49]) ?_
  refine go_l qd23_134 rfl ?_
  refine go_s qd23_135 rfl ?_
  refine ga_iast (m := 7) qd23_136 (sw_rc hb 3 (by decide)) (show sw_st _ _ _ _ _ = some (sw_up _ _ _ _) from if_pos (by decide)) ?_
  refine ga_ii (L' := [some (.ref (z + b)), some (.int (Int32.ofInt (((((0 + 1) + 1) + 1) + 1) + 1)))]) qd23_137 rfl rfl ?_
  refine ga_jp (t := 117) qd23_140 rfl ?_
  refine go_l qd23_117 rfl ?_
  refine ga_k8 qd23_118 rfl ?_
  refine ga_cgeY (t := 143) (u := ()) qd23_120 (by decide) (by decide) rfl ?_
  refine go_l qd23_123 rfl ?_
  refine ga_gf (v := .ref (z + (b + 2))) qd23_124 qc23 qf3_19 (sw_rc0 hb (by decide)) rfl (by simp [sw_fd, sw_rf, sw_Fs, sw_fs, sw_Fn, f16, f49]) ?_
  refine go_l qd23_127 rfl ?_
  refine go_s qd23_128 rfl ?_
  refine ga_iast (m := 7) qd23_129 (sw_rc hb 2 (by decide)) (show sw_st _ _ _ _ _ = some (sw_up _ _ _ _) from if_pos (by decide)) ?_
  refine go_l qd23_130 rfl ?_
  refine ga_gf (v := .ref (z + (b + 3))) qd23_131 qc23 qf3_22 (sw_rc0 hb (by decide)) rfl (by simp [sw_fd, sw_rf, sw_Fs, sw_fs, sw_Fn, f16, f49]) ?_
  refine go_l qd23_134 rfl ?_
  refine go_s qd23_135 rfl ?_
  refine ga_iast (m := 7) qd23_136 (sw_rc hb 3 (by decide)) (show sw_st _ _ _ _ _ = some (sw_up _ _ _ _) from if_pos (by decide)) ?_
  refine ga_ii (L' := [some (.ref (z + b)), some (.int (Int32.ofInt ((((((0 + 1) + 1) + 1) + 1) + 1) + 1)))]) qd23_137 rfl rfl ?_
  refine ga_jp (t := 117) qd23_140 rfl ?_
  refine go_l qd23_117 rfl ?_
  refine ga_k8 qd23_118 rfl ?_
  refine ga_cgeY (t := 143) (u := ()) qd23_120 (by decide) (by decide) rfl ?_
  refine go_l qd23_123 rfl ?_
  refine ga_gf (v := .ref (z + (b + 2))) qd23_124 qc23 qf3_19 (sw_rc0 hb (by decide)) rfl (by simp [sw_fd, sw_rf, sw_Fs, sw_fs, sw_Fn, f16, f49]) ?_
  refine go_l qd23_127 rfl ?_
  refine go_s qd23_128 rfl ?_
  refine ga_iast (m := 7) qd23_129 (sw_rc hb 2 (by decide)) (show sw_st _ _ _ _ _ = some (sw_up _ _ _ _) from if_pos (by decide)) ?_
  refine go_l qd23_130 rfl ?_
  refine ga_gf (v := .ref (z + (b + 3))) qd23_131 qc23 qf3_22 (sw_rc0 hb (by decide)) rfl (by simp [sw_fd, sw_rf, sw_Fs, sw_fs, sw_Fn, f16, f49]) ?_
  refine go_l qd23_134 rfl ?_
  refine go_s qd23_135 rfl ?_
  refine ga_iast (m := 7) qd23_136 (sw_rc hb 3 (by decide)) (show sw_st _ _ _ _ _ = some (sw_up _ _ _ _) from if_pos (by decide)) ?_
  refine ga_ii (L' := [some (.ref (z + b)), some (.int (Int32.ofInt (((((((0 + 1) + 1) + 1) + 1) + 1) + 1) + 1)))]) qd23_137 rfl rfl ?_
  refine ga_jp (t := 117) qd23_140 rfl ?_
  refine go_l qd23_117 rfl ?_
  refine ga_k8 qd23_118 rfl ?_
  refine ga_cgeN (t := 143) (u := ()) qd23_120 (by decide) (by decide) rfl ?_
  exact ga_rv qd23_143 qr23 kk
-- 0: SewingPiles$History.<init>()V
def f0 (F : sw_F) : sw_F := (f23 195 (sw_Fn (f23 171 (sw_Fn (f23 147 (sw_Fn (f23 123 (sw_Fn (f23 99 (sw_Fn (f23 75 (sw_Fn (sw_Fs F 73 0) 75)) 99)) 123)) 147)) 171)) 195))
def t0 (T : sw_T) : sw_T := (sw_up (t23 195 (sw_Tn (sw_up (t23 171 (sw_Tn (sw_up (t23 147 (sw_Tn (sw_up (t23 123 (sw_Tn (sw_up (t23 99 (sw_Tn (sw_up (t23 75 (sw_Tn (sw_Tn T 74) 75)) 74 0 ((75 : Nat) : Int)) 99)) 74 (0 + 1) ((99 : Nat) : Int)) 123)) 74 ((0 + 1) + 1) ((123 : Nat) : Int)) 147)) 74 (((0 + 1) + 1) + 1) ((147 : Nat) : Int)) 171)) 74 ((((0 + 1) + 1) + 1) + 1) ((171 : Nat) : Int)) 195)) 74 (((((0 + 1) + 1) + 1) + 1) + 1) ((195 : Nat) : Int))
theorem C0 {G : sp_G} {z cl sl : Nat} {F : sw_F} {T : sw_T} {Q : sp_R → sp_M → Prop} (kk : Q (.inl none) (sw_M z (219) (f0 F) (t0 T) (some (z + (219)), cl + 145, sl + 3402))) : sq_go G 0 0 [some (.ref (z + 73)), none] [] (sw_M z (74) F T (some (z + (74)), cl, sl)) Q := by
  refine go_l qd0_0 rfl ?_
  refine ga_ob qd0_1 qo0_3 (Nat.le_of_ble_eq_true rfl) ?_
  refine go_l qd0_4 rfl ?_
  refine ga_k8 qd0_5 rfl ?_
  refine ga_neq (m := 6) (n' := 75) qd0_7 qc0 qa0_9 (by decide) (by decide) rfl ?_
  refine ga_pr (q := z + 74) qd0_10 qc0 qg0_11 (by decide) rfl (fun f t => ⟨rfl, Nat.le_of_ble_eq_true rfl⟩) rfl ⟨qI0, rfl⟩ ?_
  refine go_s qd0_13 rfl ?_
  refine go_l (L' := [some (.ref (z + 73)), some (.int (Int32.ofInt 0))]) (st' := []) qd0_14 rfl ?_
  refine go_l qd0_15 rfl ?_
  refine ga_k8 qd0_16 rfl ?_
  refine ga_cgeY (t := 40) (u := ()) qd0_18 (by decide) (by decide) rfl ?_
  refine go_l qd0_21 rfl ?_
  refine ga_gf (v := .ref (z + 74)) qd0_22 qc0 qf0_11 (by decide) rfl rfl ?_
  refine go_l qd0_25 rfl ?_
  refine ga_new (n' := 76) qd0_26 qc0 qw0_9 (by decide) (by decide) rfl ?_
  refine go_s qd0_29 rfl ?_
  refine ga_kc (a := 75) (as := []) (rest := [.ref (z + 75), .int (Int32.ofInt 0), .ref (z + 74)]) qd0_30 qk0_17 rfl rfl (Nat.le_of_ble_eq_true rfl) (Nat.le_of_ble_eq_true rfl) rfl (C23 (b := 75) (by decide) ?_)
  show sq_go G 0 33 [some (.ref (z + 73)), some (.int (Int32.ofInt 0))] [.ref (z + 75), .int (Int32.ofInt 0), .ref (z + 74)] (sw_M z (99) _ _ (some (z + (99)), cl + 25, sl + 572)) Q
  refine ga_srm (m := 6) (r := 75) qd0_33 (by decide) (by decide) (by decide) (show sw_sr _ _ _ _ _ = some (sw_up _ _ _ _) from if_pos (by decide)) ?_
  refine ga_ii (L' := [some (.ref (z + 73)), some (.int (Int32.ofInt (0 + 1)))]) qd0_34 rfl rfl ?_
  refine ga_jp (t := 15) qd0_37 rfl ?_
  refine go_l qd0_15 rfl ?_
  refine ga_k8 qd0_16 rfl ?_
  refine ga_cgeY (t := 40) (u := ()) qd0_18 (by decide) (by decide) rfl ?_
  refine go_l qd0_21 rfl ?_
  refine ga_gf (v := .ref (z + 74)) qd0_22 qc0 qf0_11 (by decide) rfl rfl ?_
  refine go_l qd0_25 rfl ?_
  refine ga_new (n' := 100) qd0_26 qc0 qw0_9 (by decide) (by decide) rfl ?_
  refine go_s qd0_29 rfl ?_
  refine ga_kc (a := 99) (as := []) (rest := [.ref (z + 99), .int (Int32.ofInt (0 + 1)), .ref (z + 74)]) qd0_30 qk0_17 rfl rfl (Nat.le_of_ble_eq_true rfl) (Nat.le_of_ble_eq_true rfl) rfl (C23 (b := 99) (by decide) ?_)
  show sq_go G 0 33 [some (.ref (z + 73)), some (.int (Int32.ofInt (0 + 1)))] [.ref (z + 99), .int (Int32.ofInt (0 + 1)), .ref (z + 74)] (sw_M z (123) _ _ (some (z + (123)), cl + 49, sl + 1138)) Q
  refine ga_srm (m := 6) (r := 99) qd0_33 (by decide) (by decide) (by decide) (show sw_sr _ _ _ _ _ = some (sw_up _ _ _ _) from if_pos (by decide)) ?_
  refine ga_ii (L' := [some (.ref (z + 73)), some (.int (Int32.ofInt ((0 + 1) + 1)))]) qd0_34 rfl rfl ?_
  refine ga_jp (t := 15) qd0_37 rfl ?_
  refine go_l qd0_15 rfl ?_
  refine ga_k8 qd0_16 rfl ?_
  refine ga_cgeY (t := 40) (u := ()) qd0_18 (by decide) (by decide) rfl ?_
  refine go_l qd0_21 rfl ?_
  refine ga_gf (v := .ref (z + 74)) qd0_22 qc0 qf0_11 (by decide) rfl rfl ?_
  refine go_l qd0_25 rfl ?_
  refine ga_new (n' := 124) qd0_26 qc0 qw0_9 (by decide) (by decide) rfl ?_
  refine go_s qd0_29 rfl ?_
  refine ga_kc (a := 123) (as := []) (rest := [.ref (z + 123), .int (Int32.ofInt ((0 + 1) + 1)), .ref (z + 74)]) qd0_30 qk0_17 rfl rfl (Nat.le_of_ble_eq_true rfl) (Nat.le_of_ble_eq_true rfl) rfl (C23 (b := 123) (by decide) ?_)
  show sq_go G 0 33 [some (.ref (z + 73)), some (.int (Int32.ofInt ((0 + 1) + 1)))] [.ref (z + 123), .int (Int32.ofInt ((0 + 1) + 1)), .ref (z + 74)] (sw_M z (147) _ _ (some (z + (147)), cl + 73, sl + 1704)) Q
  refine ga_srm (m := 6) (r := 123) qd0_33 (by decide) (by decide) (by decide) (show sw_sr _ _ _ _ _ = some (sw_up _ _ _ _) from if_pos (by decide)) ?_
  refine ga_ii (L' := [some (.ref (z + 73)), some (.int (Int32.ofInt (((0 + 1) + 1) + 1)))]) qd0_34 rfl rfl ?_
  refine ga_jp (t := 15) qd0_37 rfl ?_
  refine go_l qd0_15 rfl ?_
  refine ga_k8 qd0_16 rfl ?_
  refine ga_cgeY (t := 40) (u := ()) qd0_18 (by decide) (by decide) rfl ?_
  refine go_l qd0_21 rfl ?_
  refine ga_gf (v := .ref (z + 74)) qd0_22 qc0 qf0_11 (by decide) rfl rfl ?_
  refine go_l qd0_25 rfl ?_
  refine ga_new (n' := 148) qd0_26 qc0 qw0_9 (by decide) (by decide) rfl ?_
  refine go_s qd0_29 rfl ?_
  refine ga_kc (a := 147) (as := []) (rest := [.ref (z + 147), .int (Int32.ofInt (((0 + 1) + 1) + 1)), .ref (z + 74)]) qd0_30 qk0_17 rfl rfl (Nat.le_of_ble_eq_true rfl) (Nat.le_of_ble_eq_true rfl) rfl (C23 (b := 147) (by decide) ?_)
  show sq_go G 0 33 [some (.ref (z + 73)), some (.int (Int32.ofInt (((0 + 1) + 1) + 1)))] [.ref (z + 147), .int (Int32.ofInt (((0 + 1) + 1) + 1)), .ref (z + 74)] (sw_M z (171) _ _ (some (z + (171)), cl + 97, sl + 2270)) Q
  refine ga_srm (m := 6) (r := 147) qd0_33 (by decide) (by decide) (by decide) (show sw_sr _ _ _ _ _ = some (sw_up _ _ _ _) from if_pos (by decide)) ?_
  refine ga_ii (L' := [some (.ref (z + 73)), some (.int (Int32.ofInt ((((0 + 1) + 1) + 1) + 1)))]) qd0_34 rfl rfl ?_
  refine ga_jp (t := 15) qd0_37 rfl ?_
  refine go_l qd0_15 rfl ?_
  refine ga_k8 qd0_16 rfl ?_
  refine ga_cgeY (t := 40) (u := ()) qd0_18 (by decide) (by decide) rfl ?_
  refine go_l qd0_21 rfl ?_
  refine ga_gf (v := .ref (z + 74)) qd0_22 qc0 qf0_11 (by decide) rfl rfl ?_
  refine go_l qd0_25 rfl ?_
  refine ga_new (n' := 172) qd0_26 qc0 qw0_9 (by decide) (by decide) rfl ?_
  refine go_s qd0_29 rfl ?_
  refine ga_kc (a := 171) (as := []) (rest := [.ref (z + 171), .int (Int32.ofInt ((((0 + 1) + 1) + 1) + 1)), .ref (z + 74)]) qd0_30 qk0_17 rfl rfl (Nat.le_of_ble_eq_true rfl) (Nat.le_of_ble_eq_true rfl) rfl (C23 (b := 171) (by decide) ?_)
  show sq_go G 0 33 [some (.ref (z + 73)), some (.int (Int32.ofInt ((((0 + 1) + 1) + 1) + 1)))] [.ref (z + 171), .int (Int32.ofInt ((((0 + 1) + 1) + 1) + 1)), .ref (z + 74)] (sw_M z (195) _ _ (some (z + (195)), cl + 121, sl + 2836)) Q
  refine ga_srm (m := 6) (r := 171) qd0_33 (by decide) (by decide) (by decide) (show sw_sr _ _ _ _ _ = some (sw_up _ _ _ _) from if_pos (by decide)) ?_
  refine ga_ii (L' := [some (.ref (z + 73)), some (.int (Int32.ofInt (((((0 + 1) + 1) + 1) + 1) + 1)))]) qd0_34 rfl rfl ?_
  refine ga_jp (t := 15) qd0_37 rfl ?_
  refine go_l qd0_15 rfl ?_
  refine ga_k8 qd0_16 rfl ?_
  refine ga_cgeY (t := 40) (u := ()) qd0_18 (by decide) (by decide) rfl ?_
  refine go_l qd0_21 rfl ?_
  refine ga_gf (v := .ref (z + 74)) qd0_22 qc0 qf0_11 (by decide) rfl rfl ?_
  refine go_l qd0_25 rfl ?_
  refine ga_new (n' := 196) qd0_26 qc0 qw0_9 (by decide) (by decide) rfl ?_
  refine go_s qd0_29 rfl ?_
  refine ga_kc (a := 195) (as := []) (rest := [.ref (z + 195), .int (Int32.ofInt (((((0 + 1) + 1) + 1) + 1) + 1)), .ref (z + 74)]) qd0_30 qk0_17 rfl rfl (Nat.le_of_ble_eq_true rfl) (Nat.le_of_ble_eq_true rfl) rfl (C23 (b := 195) (by decide) ?_)
  show sq_go G 0 33 [some (.ref (z + 73)), some (.int (Int32.ofInt (((((0 + 1) + 1) + 1) + 1) + 1)))] [.ref (z + 195), .int (Int32.ofInt (((((0 + 1) + 1) + 1) + 1) + 1)), .ref (z + 74)] (sw_M z (219) _ _ (some (z + (219)), cl + 145, sl + 3402)) Q
  refine ga_srm (m := 6) (r := 195) qd0_33 (by decide) (by decide) (by decide) (show sw_sr _ _ _ _ _ = some (sw_up _ _ _ _) from if_pos (by decide)) ?_
  refine ga_ii (L' := [some (.ref (z + 73)), some (.int (Int32.ofInt ((((((0 + 1) + 1) + 1) + 1) + 1) + 1)))]) qd0_34 rfl rfl ?_
  refine ga_jp (t := 15) qd0_37 rfl ?_
  refine go_l qd0_15 rfl ?_
  refine ga_k8 qd0_16 rfl ?_
  refine ga_cgeN (t := 40) (u := ()) qd0_18 (by decide) (by decide) rfl ?_
  exact ga_rv qd0_40 qr0 kk
-- 4: SewingPiles$OrderText.<init>()V
def f4 (F : sw_F) : sw_F := (sw_Fs F 219 0)
def t4 (T : sw_T) : sw_T := (sw_Tn T 220)
theorem C4 {G : sp_G} {z cl sl : Nat} {F : sw_F} {T : sw_T} {Q : sp_R → sp_M → Prop} (kk : Q (.inl none) (sw_M z (221) (f4 F) (t4 T) (some (z + (221)), cl + 1, sl + 60))) : sq_go G 4 0 [some (.ref (z + 219))] [] (sw_M z (220) F T (some (z + (220)), cl, sl)) Q := by
  refine go_l qd4_0 rfl ?_
  refine ga_ob qd4_1 qo4_3 (Nat.le_of_ble_eq_true rfl) ?_
  refine go_l qd4_4 rfl ?_
  refine ga_k8 qd4_5 rfl ?_
  refine ga_neax (m := 60) (n' := 221) 2 (by decide) rfl qd4_7 (by decide) (by decide) rfl ?_
  refine ga_pr (q := z + 220) qd4_9 qc4 qg1_9 (by decide) rfl (fun f t => ⟨rfl, Nat.le_of_ble_eq_true rfl⟩) rfl ⟨qI4, rfl⟩ ?_
  exact ga_rv qd4_12 qr4 kk
-- 58: SewingPiles.<init>()V
def f58 (F : sw_F) : sw_F := (sw_Fs (f4 (sw_Fn (sw_Fs (f0 (sw_Fn (sw_Fs (f23 49 (sw_Fn (sw_Fs (f23 25 (sw_Fn (sw_Fs (f23 1 (sw_Fn F 1)) 0 0) 25)) 0 1) 49)) 0 2) 73)) 0 3) 219)) 0 4)
def t58 (T : sw_T) : sw_T := (t4 (sw_Tn (t0 (sw_Tn (t23 49 (sw_Tn (t23 25 (sw_Tn (t23 1 (sw_Tn T 1)) 25)) 49)) 73)) 219))
theorem C58 {G : sp_G} {z cl sl : Nat} {F : sw_F} {T : sw_T} {Q : sp_R → sp_M → Prop} (kk : Q (.inl none) (sw_M z (221) (f58 F) (t58 T) (some (z + (221)), cl + 220, sl + 5164))) : sq_go G 58 0 [some (.ref (z + 0))] [] (sw_M z (1) F T (some (z + (1)), cl, sl)) Q := by
  refine go_l qd58_0 rfl ?_
  refine ga_ob qd58_1 qo58_1 (Nat.le_of_ble_eq_true rfl) ?_
  refine go_l qd58_4 rfl ?_
  refine ga_new (n' := 2) qd58_5 qc58 qw5_7 (by decide) (by decide) rfl ?_
  refine go_s qd58_8 rfl ?_
  refine ga_kc (a := 1) (as := []) (rest := [.ref (z + 1), .ref (z + 0)]) qd58_9 qk58_9 rfl rfl (Nat.le_of_ble_eq_true rfl) (Nat.le_of_ble_eq_true rfl) rfl (C23 (b := 1) (by decide) ?_)
  show sq_go G 58 12 [some (.ref (z + 0))] [.ref (z + 1), .ref (z + 0)] (sw_M z (25) _ _ (some (z + (25)), cl + 24, sl + 566)) Q
  refine ga_pr (q := z + 1) qd58_12 qc58 qg5_10 (by decide) rfl (fun f t => ⟨rfl, Nat.le_of_ble_eq_true rfl⟩) rfl ⟨qI58, rfl⟩ ?_
  refine go_l qd58_15 rfl ?_
  refine ga_new (n' := 26) qd58_16 qc58 qw5_7 (by decide) (by decide) rfl ?_
  refine go_s qd58_19 rfl ?_
  refine ga_kc (a := 25) (as := []) (rest := [.ref (z + 25), .ref (z + 0)]) qd58_20 qk58_9 rfl rfl (Nat.le_of_ble_eq_true rfl) (Nat.le_of_ble_eq_true rfl) rfl (C23 (b := 25) (by decide) ?_)
  show sq_go G 58 23 [some (.ref (z + 0))] [.ref (z + 25), .ref (z + 0)] (sw_M z (49) _ _ (some (z + (49)), cl + 48, sl + 1132)) Q
  refine ga_pr (q := z + 25) qd58_23 qc58 qg5_16 (by decide) rfl (fun f t => ⟨rfl, Nat.le_of_ble_eq_true rfl⟩) rfl ⟨qI58, rfl⟩ ?_
  refine go_l qd58_26 rfl ?_
  refine ga_new (n' := 50) qd58_27 qc58 qw5_7 (by decide) (by decide) rfl ?_
  refine go_s qd58_30 rfl ?_
  refine ga_kc (a := 49) (as := []) (rest := [.ref (z + 49), .ref (z + 0)]) qd58_31 qk58_9 rfl rfl (Nat.le_of_ble_eq_true rfl) (Nat.le_of_ble_eq_true rfl) rfl (C23 (b := 49) (by decide) ?_)
  show sq_go G 58 34 [some (.ref (z + 0))] [.ref (z + 49), .ref (z + 0)] (sw_M z (73) _ _ (some (z + (73)), cl + 72, sl + 1698)) Q
  refine ga_pr (q := z + 49) qd58_34 qc58 qg5_19 (by decide) rfl (fun f t => ⟨rfl, Nat.le_of_ble_eq_true rfl⟩) rfl ⟨qI58, rfl⟩ ?_
  refine go_l qd58_37 rfl ?_
  refine ga_new (n' := 74) qd58_38 qc58 qw5_22 (by decide) (by decide) rfl ?_
  refine go_s qd58_41 rfl ?_
  refine ga_kc (a := 73) (as := []) (rest := [.ref (z + 73), .ref (z + 0)]) qd58_42 qk58_24 rfl rfl (Nat.le_of_ble_eq_true rfl) (Nat.le_of_ble_eq_true rfl) rfl (C0 ?_)
  show sq_go G 58 45 [some (.ref (z + 0))] [.ref (z + 73), .ref (z + 0)] (sw_M z (219) _ _ (some (z + (219)), cl + 218, sl + 5102)) Q
  refine ga_pr (q := z + 73) qd58_45 qc58 qg5_25 (by decide) rfl (fun f t => ⟨rfl, Nat.le_of_ble_eq_true rfl⟩) rfl ⟨qI58, rfl⟩ ?_
  refine go_l qd58_48 rfl ?_
  refine ga_new (n' := 220) qd58_49 qc58 qw5_29 (by decide) (by decide) rfl ?_
  refine go_s qd58_52 rfl ?_
  refine ga_kc (a := 219) (as := []) (rest := [.ref (z + 219), .ref (z + 0)]) qd58_53 qk58_31 rfl rfl (Nat.le_of_ble_eq_true rfl) (Nat.le_of_ble_eq_true rfl) rfl (C4 ?_)
  show sq_go G 58 56 [some (.ref (z + 0))] [.ref (z + 219), .ref (z + 0)] (sw_M z (221) _ _ (some (z + (221)), cl + 220, sl + 5164)) Q
  refine ga_pr (q := z + 219) qd58_56 qc58 qg5_32 (by decide) rfl (fun f t => ⟨rfl, Nat.le_of_ble_eq_true rfl⟩) rfl ⟨qI58, rfl⟩ ?_
  exact ga_rv qd58_59 qr58 kk
-- 94: SewingPilesModel.<init>()V
def f94 (F : sw_F) : sw_F := (sw_Fs (sw_Fs (sw_Fs (sw_Fs (sw_Fs (sw_Fs F 221 1) 221 2) 221 3) 221 5) 221 7) 221 12)
def t94 (T : sw_T) : sw_T := (sw_up (sw_up (sw_up (sw_up (sw_up (sw_up (sw_Tn (sw_Tn (sw_Tn (sw_Tn (sw_Tn (sw_Tn T 222) 223) 224) 225) 226) 227) 221 0 0) 222 0 20) 222 2 3) 222 4 2) 222 (8 + 9 * 0 + 0) 1) 222 (8 + 9 * 1 + 0) 1)
theorem C94 {G : sp_G} {z cl sl : Nat} {F : sw_F} {T : sw_T} {Q : sp_R → sp_M → Prop} (kk : Q (.inl none) (sw_M z (228) (f94 F) (t94 T) (some (z + (228)), cl + 6, sl + 5047))) : sq_go G 94 0 [some (.ref (z + 221))] [] (sw_M z (222) F T (some (z + (222)), cl, sl)) Q := by
  refine go_l qd94_0 rfl ?_
  refine ga_ob qd94_1 qo94_1 (Nat.le_of_ble_eq_true rfl) ?_
  refine go_l qd94_4 rfl ?_
  refine ga_k16 qd94_5 rfl ?_
  refine ga_neax (m := 543) (n' := 223) 0 (by decide) rfl qd94_8 (by decide) (by decide) rfl ?_
  refine ga_pr (q := z + 222) qd94_10 qc94 qg6_7 (by decide) rfl (fun f t => ⟨rfl, Nat.le_of_ble_eq_true rfl⟩) rfl ⟨qI94, rfl⟩ ?_
  refine go_l qd94_13 rfl ?_
  refine ga_k16 qd94_14 rfl ?_
  refine ga_neax (m := 543) (n' := 224) 0 (by decide) rfl qd94_17 (by decide) (by decide) rfl ?_
  refine ga_pr (q := z + 223) qd94_19 qc94 qg6_13 (by decide) rfl (fun f t => ⟨rfl, Nat.le_of_ble_eq_true rfl⟩) rfl ⟨qI94, rfl⟩ ?_
  refine go_l qd94_22 rfl ?_
  refine ga_k16 qd94_23 rfl ?_
  refine ga_neax (m := 3258) (n' := 225) 0 (by decide) rfl qd94_26 (by decide) (by decide) rfl ?_
  refine ga_pr (q := z + 224) qd94_28 qc94 qg6_16 (by decide) rfl (fun f t => ⟨rfl, Nat.le_of_ble_eq_true rfl⟩) rfl ⟨qI94, rfl⟩ ?_
  refine go_l qd94_31 rfl ?_
  refine ga_k16 qd94_32 rfl ?_
  refine ga_neax (m := 543) (n' := 226) 0 (by decide) rfl qd94_35 (by decide) (by decide) rfl ?_
  refine ga_pr (q := z + 225) qd94_37 qc94 qg6_19 (by decide) rfl (fun f t => ⟨rfl, Nat.le_of_ble_eq_true rfl⟩) rfl ⟨qI94, rfl⟩ ?_
  refine go_l qd94_40 rfl ?_
  refine ga_k8 qd94_41 rfl ?_
  refine ga_neax (m := 60) (n' := 227) 0 (by decide) rfl qd94_43 (by decide) (by decide) rfl ?_
  refine ga_pr (q := z + 226) qd94_45 qc94 qg6_22 (by decide) rfl (fun f t => ⟨rfl, Nat.le_of_ble_eq_true rfl⟩) rfl ⟨qI94, rfl⟩ ?_
  refine go_l qd94_48 rfl ?_
  refine ga_k8 qd94_49 rfl ?_
  refine ga_neax (m := 100) (n' := 228) 0 (by decide) rfl qd94_51 (by decide) (by decide) rfl ?_
  refine ga_pr (q := z + 227) qd94_53 qc94 qg6_25 (by decide) rfl (fun f t => ⟨rfl, Nat.le_of_ble_eq_true rfl⟩) rfl ⟨qI94, rfl⟩ ?_
  refine go_l qd94_56 rfl ?_
  refine go_s qd94_57 rfl ?_
  refine ga_pfi qd94_58 qc94 qg6_28 (by decide) rfl qi6_0 rfl ?_
  refine go_l qd94_61 rfl ?_
  refine ga_gf (v := .ref (z + 222)) qd94_62 qc94 qf6_7 (by decide) rfl rfl ?_
  refine go_s qd94_65 rfl ?_
  refine ga_k8 qd94_66 rfl ?_
  refine ga_iast (m := 543) qd94_68 (by decide) (show sw_st _ _ _ _ _ = some (sw_up _ _ _ _) from if_pos (by decide)) ?_
  refine go_l qd94_69 rfl ?_
  refine ga_gf (v := .ref (z + 222)) qd94_70 qc94 qf6_7 (by decide) rfl rfl ?_
  refine go_s qd94_73 rfl ?_
  refine go_s qd94_74 rfl ?_
  refine ga_iast (m := 543) qd94_75 (by decide) (show sw_st _ _ _ _ _ = some (sw_up _ _ _ _) from if_pos (by decide)) ?_
  refine go_l qd94_76 rfl ?_
  refine ga_gf (v := .ref (z + 222)) qd94_77 qc94 qf6_7 (by decide) rfl rfl ?_
  refine go_s qd94_80 rfl ?_
  refine go_s qd94_81 rfl ?_
  refine ga_iast (m := 543) qd94_82 (by decide) (show sw_st _ _ _ _ _ = some (sw_up _ _ _ _) from if_pos (by decide)) ?_
  refine go_l qd94_83 rfl ?_
  refine go_s qd94_84 rfl ?_
  refine go_s qd94_85 rfl ?_
  refine go_s qd94_86 rfl ?_
  refine ga_kv (a := 221) (as := [.int (Int32.ofInt 0), .int (Int32.ofInt 0), .int (Int32.ofInt 1)]) (rest := []) qd94_87 qk94_32 (by decide) rfl rfl rfl (Nat.le_of_ble_eq_true rfl) (Nat.le_of_ble_eq_true rfl) rfl (C99 (by decide) rfl (show w99 _ _ _ _ = some (sw_up _ 222 (8 + 9 * 0 + 0) 1) from rfl) (sw_bk0 ?_))
  refine go_l qd94_90 rfl ?_
  refine go_s qd94_91 rfl ?_
  refine go_s qd94_92 rfl ?_
  refine go_s qd94_93 rfl ?_
  refine ga_kv (a := 221) (as := [.int (Int32.ofInt 1), .int (Int32.ofInt 0), .int (Int32.ofInt 1)]) (rest := []) qd94_94 qk94_32 (by decide) rfl rfl rfl (Nat.le_of_ble_eq_true rfl) (Nat.le_of_ble_eq_true rfl) rfl (C99 (by decide) rfl (show w99 _ _ _ _ = some (sw_up _ 222 (8 + 9 * 1 + 0) 1) from rfl) (sw_bk0 ?_))
  exact ga_rv qd94_97 qr94 kk
-- 187: SewingPilesLaw.law([I)Z
def f187 (F : sw_F) : sw_F := (f94 (sw_Fn (f58 (sw_Fn F 0)) 221))
def t187 (T : sw_T) : sw_T := (sw_Tn (t94 (sw_Tn (t58 (sw_Tn T 0)) 221)) 228)
theorem C187 {G : sp_G} {z cl sl : Nat} {F : sw_F} {T : sw_T} {Q : sp_R → sp_M → Prop} (kk : sq_go G 187 20 [some (.ref G.1), some (.ref (z + 0)), some (.ref (z + 221)), some (.ref (z + 228)), none, none, none, none, none] [] (sw_M z (229) (f187 F) (t187 T) (some (z + (229)), cl + 229, sl + 10233)) Q) : sq_go G 187 0 [some (.ref G.1), none, none, none, none, none, none, none, none] [] (sw_M z (0) F T (some (z + (0)), cl, sl)) Q := by
  refine ga_new (n' := 1) qd187_0 qc187 qw7_8 (by decide) (by decide) rfl ?_
  refine go_s qd187_3 rfl ?_
  refine ga_kc (a := 0) (as := []) (rest := [.ref (z + 0)]) qd187_4 qk187_72 rfl rfl (Nat.le_of_ble_eq_true rfl) (Nat.le_of_ble_eq_true rfl) rfl (C58 ?_)
  show sq_go G 187 7 [some (.ref G.1), none, none, none, none, none, none, none, none] [.ref (z + 0)] (sw_M z (221) _ _ (some (z + (221)), cl + 221, sl + 5170)) Q
  refine go_l (L' := [some (.ref G.1), some (.ref (z + 0)), none, none, none, none, none, none, none]) (st' := []) qd187_7 rfl ?_
  refine ga_new (n' := 222) qd187_8 qc187 qw7_73 (by decide) (by decide) rfl ?_
  refine go_s qd187_11 rfl ?_
  refine ga_kc (a := 221) (as := []) (rest := [.ref (z + 221)]) qd187_12 qk187_75 rfl rfl (Nat.le_of_ble_eq_true rfl) (Nat.le_of_ble_eq_true rfl) rfl (C94 ?_)
  show sq_go G 187 15 [some (.ref G.1), some (.ref (z + 0)), none, none, none, none, none, none, none] [.ref (z + 221)] (sw_M z (228) _ _ (some (z + (228)), cl + 228, sl + 10232)) Q
  refine go_l (L' := [some (.ref G.1), some (.ref (z + 0)), some (.ref (z + 221)), none, none, none, none, none, none]) (st' := []) qd187_15 rfl ?_
  refine go_s qd187_16 rfl ?_
  refine ga_neax (m := 1) (n' := 229) 3 (by decide) rfl qd187_17 (by decide) (by decide) rfl ?_
  refine go_l (L' := [some (.ref G.1), some (.ref (z + 0)), some (.ref (z + 221)), some (.ref (z + 228)), none, none, none, none, none]) (st' := []) qd187_19 rfl ?_
  exact kk
