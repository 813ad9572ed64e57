/-! ===== the constructors ===== -/
theorem qo5_3 : sw_obk 5 3 = true := by decide +kernel
theorem qg2_11 : sp_fd sp_flT 2 11 = some (2, 0) := by decide +kernel
theorem qI5 : sq_ini 5 = true := by decide +kernel
theorem qc5 : sq_c 5 = 2 := by decide +kernel
theorem qm2_17 : sp_fd sp_muT 2 17 = some () := by decide +kernel
theorem qg2_19 : sp_fd sp_flT 2 19 = some (2, 1) := by decide +kernel
theorem qr5 : sq_ret 5 = none := by decide +kernel
theorem qo37_3 : sw_obk 37 3 = true := by decide +kernel
theorem qg4_9 : sp_fd sp_flT 4 9 = some (4, 1) := by decide +kernel
theorem qI37 : sq_ini 37 = true := by decide +kernel
theorem qc37 : sq_c 37 = 4 := by decide +kernel
theorem qg4_15 : sp_fd sp_flT 4 15 = some (4, 2) := by decide +kernel
theorem qg4_18 : sp_fd sp_flT 4 18 = some (4, 3) := by decide +kernel
theorem qr37 : sq_ret 37 = none := by decide +kernel
theorem qo12_3 : sw_obk 12 3 = true := by decide +kernel
theorem qc12 : sq_c 12 = 3 := by decide +kernel
theorem qg3_15 : sp_fd sp_flT 3 15 = some (3, 4) := by decide +kernel
theorem qI12 : sq_ini 12 = true := by decide +kernel
theorem qg3_19 : sp_fd sp_flT 3 19 = some (3, 5) := by decide +kernel
theorem qg3_22 : sp_fd sp_flT 3 22 = some (3, 6) := by decide +kernel
theorem qg3_25 : sp_fd sp_flT 3 25 = some (3, 7) := by decide +kernel
theorem qg3_28 : sp_fd sp_flT 3 28 = some (3, 8) := by decide +kernel
theorem qg3_32 : sp_fd sp_flT 3 32 = some (3, 9) := by decide +kernel
theorem qg3_35 : sp_fd sp_flT 3 35 = some (3, 10) := by decide +kernel
theorem qg3_38 : sp_fd sp_flT 3 38 = some (3, 11) := by decide +kernel
theorem qg3_41 : sp_fd sp_flT 3 41 = some (3, 12) := by decide +kernel
theorem qw3_44 : sp_fd sp_nwT 3 44 = some 2 := by decide +kernel
theorem qk12_46 : sw_ck 12 46 5 2 0 2 1 = true := by decide +kernel
theorem qg3_47 : sp_fd sp_flT 3 47 = some (3, 13) := by decide +kernel
theorem qw3_51 : sp_fd sp_nwT 3 51 = some 4 := by decide +kernel
theorem qk12_53 : sw_ck 12 53 37 2 0 4 1 = true := by decide +kernel
theorem qg3_54 : sp_fd sp_flT 3 54 = some (3, 14) := by decide +kernel
theorem qr12 : sq_ret 12 = none := by decide +kernel
theorem qo0_3 : sw_obk 0 3 = true := by decide +kernel
theorem qa0_9 : sp_fd sp_anT 0 9 = some () := by decide +kernel
theorem qc0 : sq_c 0 = 0 := by decide +kernel
theorem qg0_11 : sp_fd sp_flT 0 11 = some (0, 0) := by decide +kernel
theorem qI0 : sq_ini 0 = true := by decide +kernel
theorem qw0_9 : sp_fd sp_nwT 0 9 = some 3 := by decide +kernel
theorem qk0_17 : sw_ck 0 17 12 2 0 3 2 = true := by decide +kernel
theorem qr0 : sq_ret 0 = none := by decide +kernel
theorem qo4_3 : sw_obk 4 3 = true := by decide +kernel
theorem qg1_9 : sp_fd sp_flT 1 9 = some (1, 0) := by decide +kernel
theorem qI4 : sq_ini 4 = true := by decide +kernel
theorem qc4 : sq_c 4 = 1 := by decide +kernel
theorem qr4 : sq_ret 4 = none := by decide +kernel
theorem qo46_1 : sw_obk 46 1 = true := by decide +kernel
theorem qw5_7 : sp_fd sp_nwT 5 7 = some 3 := by decide +kernel
theorem qc46 : sq_c 46 = 5 := by decide +kernel
theorem qk46_9 : sw_ck 46 9 12 2 0 3 2 = true := by decide +kernel
theorem qg5_10 : sp_fd sp_flT 5 10 = some (5, 0) := by decide +kernel
theorem qI46 : sq_ini 46 = true := by decide +kernel
theorem qg5_16 : sp_fd sp_flT 5 16 = some (5, 1) := by decide +kernel
theorem qg5_19 : sp_fd sp_flT 5 19 = some (5, 2) := by decide +kernel
theorem qw5_22 : sp_fd sp_nwT 5 22 = some 0 := by decide +kernel
theorem qk46_24 : sw_ck 46 24 0 2 0 0 2 = true := by decide +kernel
theorem qg5_25 : sp_fd sp_flT 5 25 = some (5, 3) := by decide +kernel
theorem qw5_29 : sp_fd sp_nwT 5 29 = some 1 := by decide +kernel
theorem qk46_31 : sw_ck 46 31 4 2 0 1 1 = true := by decide +kernel
theorem qg5_32 : sp_fd sp_flT 5 32 = some (5, 4) := by decide +kernel
theorem qr46 : sq_ret 46 = none := by decide +kernel
theorem qw7_13 : sp_fd sp_nwT 7 13 = some 5 := by decide +kernel
theorem qc73 : sq_c 73 = 7 := by decide +kernel
theorem qk73_68 : sw_ck 73 68 46 2 0 5 1 = true := by decide +kernel
-- 5: SewingPiles$Piles.<init>()V
def f5 (b : Nat) (F : sw_F) : sw_F := (sw_Fs (sw_Fs F (b + 10) 0) (b + 10) 1)
def t5 (b : Nat) (T : sw_T) : sw_T := (sw_Tm (sw_Tn T (b + 11)) (b + 12) 7)
theorem C5 {G : sp_G} {z cl sl : Nat} {b : Nat} (hb : b ∈ sw_rm) {F : sw_F} {T : sw_T} {Q : sp_R → sp_M → Prop} (kk : Q (.inl none) (sw_M z (b + 20) (f5 b F) (t5 b T) (some (z + (b + 20)), cl + 9, sl + 126))) : sq_go G 5 0 [some (.ref (z + (b + 10)))] [] (sw_M z (b + 11) F T (some (z + (b + 11)), cl, sl)) Q := by
  refine go_l qd5_0 rfl ?_
  refine ga_ob qd5_1 qo5_3 (Nat.le_of_ble_eq_true rfl) ?_
  refine go_l qd5_4 rfl ?_
  refine ga_k8 qd5_5 rfl ?_
  refine ga_neax (m := 7) (n' := b + 12) 0 (by decide) rfl qd5_7 (by decide) (sw_rL hb 11 (by decide)) rfl ?_
  refine ga_pr (q := z + (b + 11)) qd5_9 qc5 qg2_11 (sw_rc hb 10 (by decide)) rfl (fun f t => ⟨rfl, Nat.le_of_ble_eq_true rfl⟩) rfl ⟨qI5, rfl⟩ ?_
  refine go_l qd5_12 rfl ?_
  refine ga_k8 qd5_13 rfl ?_
  refine ga_k8 qd5_15 rfl ?_
  refine ga_nem (m := 7) (k2 := 16) (n' := b + 20) qd5_17 qc5 qm2_17 (by decide) (by decide) (sw_rL hb 12 (by decide)) (fun i hi => by rw [show b + 12 + 1 + i = b + (13 + i) by omega]; exact sw_rL hb _ ((by decide : ∀ i, i < 7 → 13 + i < 24 ∧ sw_rs[13 + i]? = some (0, 16)) i hi)) rfl ?_
  refine ga_pr (q := z + (b + 12)) qd5_21 qc5 qg2_19 (sw_rc hb 10 (by decide)) rfl (fun f t => ⟨rfl, Nat.le_of_ble_eq_true rfl⟩) rfl ⟨qI5, rfl⟩ ?_
  exact ga_rv qd5_24 qr5 kk
-- 37: SewingPiles$Shirts.<init>()V
def f37 (b : Nat) (F : sw_F) : sw_F := (sw_Fs (sw_Fs (sw_Fs F (b + 20) 1) (b + 20) 2) (b + 20) 3)
def t37 (b : Nat) (T : sw_T) : sw_T := (sw_Tn (sw_Tn (sw_Tn T (b + 21)) (b + 22)) (b + 23))
theorem C37 {G : sp_G} {z cl sl : Nat} {b : Nat} (hb : b ∈ sw_rm) {F : sw_F} {T : sw_T} {Q : sp_R → sp_M → Prop} (kk : Q (.inl none) (sw_M z (b + 24) (f37 b F) (t37 b T) (some (z + (b + 24)), cl + 3, sl + 360))) : sq_go G 37 0 [some (.ref (z + (b + 20)))] [] (sw_M z (b + 21) F T (some (z + (b + 21)), cl, sl)) Q := by
  refine go_l qd37_0 rfl ?_
  refine ga_ob qd37_1 qo37_3 (Nat.le_of_ble_eq_true rfl) ?_
  refine go_l qd37_4 rfl ?_
  refine ga_k8 qd37_5 rfl ?_
  refine ga_neax (m := 120) (n' := b + 22) 0 (by decide) rfl qd37_7 (by decide) (sw_rL hb 21 (by decide)) rfl ?_
  refine ga_pr (q := z + (b + 21)) qd37_9 qc37 qg4_9 (sw_rc hb 20 (by decide)) rfl (fun f t => ⟨rfl, Nat.le_of_ble_eq_true rfl⟩) rfl ⟨qI37, rfl⟩ ?_
  refine go_l qd37_12 rfl ?_
  refine ga_k8 qd37_13 rfl ?_
  refine ga_neax (m := 120) (n' := b + 23) 0 (by decide) rfl qd37_15 (by decide) (sw_rL hb 22 (by decide)) rfl ?_
  refine ga_pr (q := z + (b + 22)) qd37_17 qc37 qg4_15 (sw_rc hb 20 (by decide)) rfl (fun f t => ⟨rfl, Nat.le_of_ble_eq_true rfl⟩) rfl ⟨qI37, rfl⟩ ?_
  refine go_l qd37_20 rfl ?_
  refine ga_k8 qd37_21 rfl ?_
  refine ga_neax (m := 120) (n' := b + 24) 0 (by decide) rfl qd37_23 (by decide) (sw_rL hb 23 (by decide)) rfl ?_
  refine ga_pr (q := z + (b + 23)) qd37_25 qc37 qg4_18 (sw_rc hb 20 (by decide)) rfl (fun f t => ⟨rfl, Nat.le_of_ble_eq_true rfl⟩) rfl ⟨qI37, rfl⟩ ?_
  exact ga_rv qd37_28 qr37 kk
-- 12: SewingPiles$Room.<init>()V
def f12 (b : Nat) (F : sw_F) : sw_F := (sw_Fs (f37 b (sw_Fn (sw_Fs (f5 b (sw_Fn (sw_Fs (sw_Fs (sw_Fs (sw_Fs (sw_Fs (sw_Fs (sw_Fs (sw_Fs (sw_Fs F b 4) b 5) b 6) b 7) b 8) b 9) b 10) b 11) b 12) (b + 10))) b 13) (b + 20))) b 14)
def t12 (b : Nat) (T : sw_T) : sw_T := (sw_up (sw_up (sw_up (sw_up (sw_up (sw_up (sw_up (sw_up (sw_up (sw_up (sw_up (sw_up (sw_up (sw_up (t37 b (sw_Tn (t5 b (sw_Tn (sw_Tn (sw_Tn (sw_Tn (sw_Tn (sw_Tn (sw_Tn (sw_Tn (sw_Tn (sw_up (sw_up (sw_up (sw_Tn (sw_up T b 1 2) (b + 1)) (b + 1) 0 20) (b + 1) 1 0) (b + 1) 2 3) (b + 2)) (b + 3)) (b + 4)) (b + 5)) (b + 6)) (b + 7)) (b + 8)) (b + 9)) (b + 10))) (b + 20))) (b + 2) 0 1) (b + 3) 0 (-1)) (b + 2) (0 + 1) 1) (b + 3) (0 + 1) (-1)) (b + 2) ((0 + 1) + 1) 1) (b + 3) ((0 + 1) + 1) (-1)) (b + 2) (((0 + 1) + 1) + 1) 1) (b + 3) (((0 + 1) + 1) + 1) (-1)) (b + 2) ((((0 + 1) + 1) + 1) + 1) 1) (b + 3) ((((0 + 1) + 1) + 1) + 1) (-1)) (b + 2) (((((0 + 1) + 1) + 1) + 1) + 1) 1) (b + 3) (((((0 + 1) + 1) + 1) + 1) + 1) (-1)) (b + 2) ((((((0 + 1) + 1) + 1) + 1) + 1) + 1) 1) (b + 3) ((((((0 + 1) + 1) + 1) + 1) + 1) + 1) (-1))
theorem C12 {G : sp_G} {z cl sl : Nat} {b : Nat} (hb : b ∈ sw_rm) {F : sw_F} {T : sw_T} {Q : sp_R → sp_M → Prop} (kk : Q (.inl none) (sw_M z (b + 24) (f12 b F) (t12 b T) (some (z + (b + 24)), cl + 23, sl + 551))) : sq_go G 12 0 [some (.ref (z + b)), none] [] (sw_M z (b + 1) F T (some (z + (b + 1)), cl, sl)) Q := by
  refine go_l qd12_0 rfl ?_
  refine ga_ob qd12_1 qo12_3 (Nat.le_of_ble_eq_true rfl) ?_
  refine go_l qd12_4 rfl ?_
  refine go_s qd12_5 rfl ?_
  refine ga_pfi qd12_6 qc12 qg3_9 (sw_rc0 hb (by decide)) rfl qi3_1 rfl ?_
  refine go_l qd12_9 rfl ?_
  refine go_s qd12_10 rfl ?_
  refine ga_neax (m := 3) (n' := b + 2) 0 (by decide) rfl qd12_11 (by decide) (sw_rL hb 1 (by decide)) rfl ?_
  refine go_s qd12_13 rfl ?_
  refine go_s qd12_14 rfl ?_
  refine ga_k8 qd12_15 rfl ?_
  refine ga_iast (m := 3) qd12_17 (sw_rc hb 1 (by decide)) (show sw_st _ _ _ _ _ = some (sw_up _ _ _ _) from if_pos (by decide)) ?_
  refine go_s qd12_18 rfl ?_
  refine go_s qd12_19 rfl ?_
  refine go_s qd12_20 rfl ?_
  refine ga_iast (m := 3) qd12_21 (sw_rc hb 1 (by decide)) (show sw_st _ _ _ _ _ = some (sw_up _ _ _ _) from if_pos (by decide)) ?_
  refine go_s qd12_22 rfl ?_
  refine go_s qd12_23 rfl ?_
  refine go_s qd12_24 rfl ?_
  refine ga_iast (m := 3) qd12_25 (sw_rc hb 1 (by decide)) (show sw_st _ _ _ _ _ = some (sw_up _ _ _ _) from if_pos (by decide)) ?_
  refine ga_pr (q := z + (b + 1)) qd12_26 qc12 qg3_15 (sw_rc0 hb (by decide)) rfl (fun f t => ⟨rfl, Nat.le_of_ble_eq_true rfl⟩) rfl ⟨qI12, rfl⟩ ?_
  refine go_l qd12_29 rfl ?_
  refine ga_k8 qd12_30 rfl ?_
  refine ga_neax (m := 7) (n' := b + 3) 0 (by decide) rfl qd12_32 (by decide) (sw_rL hb 2 (by decide)) rfl ?_
  refine ga_pr (q := z + (b + 2)) qd12_34 qc12 qg3_19 (sw_rc0 hb (by decide)) rfl (fun f t => ⟨rfl, Nat.le_of_ble_eq_true rfl⟩) rfl ⟨qI12, rfl⟩ ?_
  refine go_l qd12_37 rfl ?_
  refine ga_k8 qd12_38 rfl ?_
  refine ga_neax (m := 7) (n' := b + 4) 0 (by decide) rfl qd12_40 (by decide) (sw_rL hb 3 (by decide)) rfl ?_
  refine ga_pr (q := z + (b + 3)) qd12_42 qc12 qg3_22 (sw_rc0 hb (by decide)) rfl (fun f t => ⟨rfl, Nat.le_of_ble_eq_true rfl⟩) rfl ⟨qI12, rfl⟩ ?_
  refine go_l qd12_45 rfl ?_
  refine ga_k8 qd12_46 rfl ?_
  refine ga_neax (m := 7) (n' := b + 5) 0 (by decide) rfl qd12_48 (by decide) (sw_rL hb 4 (by decide)) rfl ?_
  refine ga_pr (q := z + (b + 4)) qd12_50 qc12 qg3_25 (sw_rc0 hb (by decide)) rfl (fun f t => ⟨rfl, Nat.le_of_ble_eq_true rfl⟩) rfl ⟨qI12, rfl⟩ ?_
  refine go_l qd12_53 rfl ?_
  refine ga_k8 qd12_54 rfl ?_
  refine ga_neax (m := 7) (n' := b + 6) 1 (by decide) rfl qd12_56 (by decide) (sw_rL hb 5 (by decide)) rfl ?_
  refine ga_pr (q := z + (b + 5)) qd12_58 qc12 qg3_28 (sw_rc0 hb (by decide)) rfl (fun f t => ⟨rfl, Nat.le_of_ble_eq_true rfl⟩) rfl ⟨qI12, rfl⟩ ?_
  refine go_l qd12_61 rfl ?_
  refine ga_k8 qd12_62 rfl ?_
  refine ga_neax (m := 7) (n' := b + 7) 0 (by decide) rfl qd12_64 (by decide) (sw_rL hb 6 (by decide)) rfl ?_
  refine ga_pr (q := z + (b + 6)) qd12_66 qc12 qg3_32 (sw_rc0 hb (by decide)) rfl (fun f t => ⟨rfl, Nat.le_of_ble_eq_true rfl⟩) rfl ⟨qI12, rfl⟩ ?_
  refine go_l qd12_69 rfl ?_
  refine ga_k8 qd12_70 rfl ?_
  refine ga_neax (m := 7) (n' := b + 8) 0 (by decide) rfl qd12_72 (by decide) (sw_rL hb 7 (by decide)) rfl ?_
  refine ga_pr (q := z + (b + 7)) qd12_74 qc12 qg3_35 (sw_rc0 hb (by decide)) rfl (fun f t => ⟨rfl, Nat.le_of_ble_eq_true rfl⟩) rfl ⟨qI12, rfl⟩ ?_
  refine go_l qd12_77 rfl ?_
  refine ga_k8 qd12_78 rfl ?_
  refine ga_neax (m := 7) (n' := b + 9) 0 (by decide) rfl qd12_80 (by decide) (sw_rL hb 8 (by decide)) rfl ?_
  refine ga_pr (q := z + (b + 8)) qd12_82 qc12 qg3_38 (sw_rc0 hb (by decide)) rfl (fun f t => ⟨rfl, Nat.le_of_ble_eq_true rfl⟩) rfl ⟨qI12, rfl⟩ ?_
  refine go_l qd12_85 rfl ?_
  refine ga_k8 qd12_86 rfl ?_
  refine ga_neax (m := 7) (n' := b + 10) 0 (by decide) rfl qd12_88 (by decide) (sw_rL hb 9 (by decide)) rfl ?_
  refine ga_pr (q := z + (b + 9)) qd12_90 qc12 qg3_41 (sw_rc0 hb (by decide)) rfl (fun f t => ⟨rfl, Nat.le_of_ble_eq_true rfl⟩) rfl ⟨qI12, rfl⟩ ?_
  refine go_l qd12_93 rfl ?_
  refine ga_new (n' := b + 11) qd12_94 qc12 qw3_44 (by decide) (sw_rL hb 10 (by decide)) rfl ?_
  refine go_s qd12_97 rfl ?_
  refine ga_kc (a := (b + 10)) (as := []) (rest := [.ref (z + (b + 10)), .ref (z + b)]) qd12_98 qk12_46 rfl rfl (Nat.le_of_ble_eq_true rfl) (Nat.le_of_ble_eq_true rfl) rfl (C5 (b := b) hb ?_)
  show sq_go G 12 101 [some (.ref (z + b)), none] [.ref (z + (b + 10)), .ref (z + b)] (sw_M z (b + 20) _ _ (some (z + (b + 20)), cl + 19, sl + 187)) Q
  refine ga_pr (q := z + (b + 10)) qd12_101 qc12 qg3_47 (sw_rc0 hb (by decide)) rfl (fun f t => ⟨rfl, Nat.le_of_ble_eq_true rfl⟩) rfl ⟨qI12, rfl⟩ ?_
  refine go_l qd12_104 rfl ?_
  refine ga_new (n' := b + 21) qd12_105 qc12 qw3_51 (by decide) (sw_rL hb 20 (by decide)) rfl ?_
  refine go_s qd12_108 rfl ?_
  refine ga_kc (a := (b + 20)) (as := []) (rest := [.ref (z + (b + 20)), .ref (z + b)]) qd12_109 qk12_53 rfl rfl (Nat.le_of_ble_eq_true rfl) (Nat.le_of_ble_eq_true rfl) rfl (C37 (b := b) hb ?_)
  show sq_go G 12 112 [some (.ref (z + b)), none] [.ref (z + (b + 20)), .ref (z + b)] (sw_M z (b + 24) _ _ (some (z + (b + 24)), cl + 23, sl + 551)) Q
  refine ga_pr (q := z + (b + 20)) qd12_112 qc12 qg3_54 (sw_rc0 hb (by decide)) rfl (fun f t => ⟨rfl, Nat.le_of_ble_eq_true rfl⟩) rfl ⟨qI12, rfl⟩ ?_
  refine go_s qd12_115 rfl ?_
  refine go_l (L' := [some (.ref (z + b)), some (.int (Int32.ofInt 0))]) (st' := []) qd12_116 rfl ?_
  refine go_l qd12_117 rfl ?_
  refine ga_k8 qd12_118 rfl ?_
  refine ga_cgeY (t := 143) (u := ()) qd12_120 (by decide) (by decide) rfl ?_
  refine go_l qd12_123 rfl ?_
  refine ga_gf (v := .ref (z + (b + 2))) qd12_124 qc12 qf3_19 (sw_rc0 hb (by decide)) rfl (by simp [sw_fd, sw_rf, sw_Fs, sw_fs, sw_Fn, f5, f37]) ?_
  refine go_l qd12_127 rfl ?_
  refine go_s qd12_128 rfl ?_
  refine ga_iast (m := 7) qd12_129 (sw_rc hb 2 (by decide)) (show sw_st _ _ _ _ _ = some (sw_up _ _ _ _) from if_pos (by decide)) ?_
  refine go_l qd12_130 rfl ?_
  refine ga_gf (v := .ref (z + (b + 3))) qd12_131 qc12 qf3_22 (sw_rc0 hb (by decide)) rfl (by simp [sw_fd, sw_rf, sw_Fs, sw_fs, sw_Fn, f5, f37]) ?_
  refine go_l qd12_134 rfl ?_
  refine go_s qd12_135 rfl ?_
  refine ga_iast (m := 7) qd12_136 (sw_rc hb 3 (by decide)) (show sw_st _ _ _ _ _ = some (sw_up _ _ _ _) from if_pos (by decide)) ?_
  refine ga_ii (L' := [some (.ref (z + b)), some (.int (Int32.ofInt (0 + 1)))]) qd12_137 rfl rfl ?_
  refine ga_jp (t := 117) qd12_140 rfl ?_
  refine go_l qd12_117 rfl ?_
  refine ga_k8 qd12_118 rfl ?_
  refine ga_cgeY (t := 143) (u := ()) qd12_120 (by decide) (by decide) rfl ?_
  refine go_l qd12_123 rfl ?_
  refine ga_gf (v := .ref (z + (b + 2))) qd12_124 qc12 qf3_19 (sw_rc0 hb (by decide)) rfl (by simp [sw_fd, sw_rf, sw_Fs, sw_fs, sw_Fn, f5, f37]) ?_
  refine go_l qd12_127 rfl ?_
  refine go_s qd12_128 rfl ?_
  refine ga_iast (m := 7) qd12_129 (sw_rc hb 2 (by decide)) (show sw_st _ _ _ _ _ = some (sw_up _ _ _ _) from if_pos (by decide)) ?_
  refine go_l qd12_130 rfl ?_
  refine ga_gf (v := .ref (z + (b + 3))) qd12_131 qc12 qf3_22 (sw_rc0 hb (by decide)) rfl (by simp [sw_fd, sw_rf, sw_Fs, sw_fs, sw_Fn, f5, f37]) ?_
  refine go_l qd12_134 rfl ?_
  refine go_s qd12_135 rfl ?_
  refine ga_iast (m := 7) qd12_136 (sw_rc hb 3 (by decide)) (show sw_st _ _ _ _ _ = some (sw_up _ _ _ _) from if_pos (by decide)) ?_
  refine ga_ii (L' := [some (.ref (z + b)), some (.int (Int32.ofInt ((0 + 1) + 1)))]) qd12_137 rfl rfl ?_
  refine ga_jp (t := 117) qd12_140 rfl ?_
  refine go_l qd12_117 rfl ?_
  refine ga_k8 qd12_118 rfl ?_
  refine ga_cgeY (t := 143) (u := ()) qd12_120 (by decide) (by decide) rfl ?_
  refine go_l qd12_123 rfl ?_
  refine ga_gf (v := .ref (z + (b + 2))) qd12_124 qc12 qf3_19 (sw_rc0 hb (by decide)) rfl (by simp [sw_fd, sw_rf, sw_Fs, sw_fs, sw_Fn, f5, f37]) ?_
  refine go_l qd12_127 rfl ?_
  refine go_s qd12_128 rfl ?_
  refine ga_iast (m := 7) qd12_129 (sw_rc hb 2 (by decide)) (show sw_st _ _ _ _ _ = some (sw_up _ _ _ _) from if_pos (by decide)) ?_
  refine go_l qd12_130 rfl ?_
  refine ga_gf (v := .ref (z + (b + 3))) qd12_131 qc12 qf3_22 (sw_rc0 hb (by decide)) rfl (by simp [sw_fd, sw_rf, sw_Fs, sw_fs, sw_Fn, f5, f37]) ?_
  refine go_l qd12_134 rfl ?_
  refine go_s qd12_135 rfl ?_
  refine ga_iast (m := 7) qd12_136 (sw_rc hb 3 (by decide)) (show sw_st _ _ _ _ _ = some (sw_up _ _ _ _) from if_pos (by decide)) ?_
  refine ga_ii (L' := [some (.ref (z + b)), some (.int (Int32.ofInt (((0 + 1) + 1) + 1)))]) qd12_137 rfl rfl ?_
  refine ga_jp (t := 117) qd12_140 rfl ?_
  refine go_l qd12_117 rfl ?_
  refine ga_k8 qd12_118 rfl ?_
  refine ga_cgeY (t := 143) (u := ()) qd12_120 (by decide) (by decide) rfl ?_
  refine go_l qd12_123 rfl ?_
  refine ga_gf (v := .ref (z + (b + 2))) qd12_124 qc12 qf3_19 (sw_rc0 hb (by decide)) rfl (by simp [sw_fd, sw_rf, sw_Fs, sw_fs, sw_Fn, f5, f37]) ?_
  refine go_l qd12_127 rfl ?_
  refine go_s qd12_128 rfl ?_
  refine ga_iast (m := 7) qd12_129 (sw_rc hb 2 (by decide)) (show sw_st _ _ _ _ _ = some (sw_up _ _ _ _) from if_pos (by decide)) ?_
  refine go_l qd12_130 rfl ?_
  refine ga_gf (v := .ref (z + (b + 3))) qd12_131 qc12 qf3_22 (sw_rc0 hb (by decide)) rfl (by simp [sw_fd, sw_rf, sw_Fs, sw_fs, sw_Fn, f5, f37]) ?_
  refine go_l qd12_134 rfl ?_
  refine go_s qd12_135 rfl ?_
  refine ga_iast (m := 7) qd12_136 (sw_rc hb 3 (by decide)) (show sw_st _ _ _ _ _ = some (sw_up _ _ _ _) from if_pos (by decide)) ?_
  refine ga_ii (L' := [some (.ref (z + b)), some (.int (Int32.ofInt ((((0 + 1) + 1) + 1) + 1)))]) qd12_137 rfl rfl ?_
  refine ga_jp (t := 117) qd12_140 rfl ?_
  refine go_l qd12_117 rfl ?_
  refine ga_k8 qd12_118 rfl ?_
  refine ga_cgeY (t := 143) (u := ()) qd12_120 (by decide) (by decide) rfl ?_
  refine go_l qd12_123 rfl ?_
  refine ga_gf (v := .ref (z + (b + 2))) qd12_124 qc12 qf3_19 (sw_rc0 hb (by decide)) rfl (by simp [sw_fd, sw_rf, sw_Fs, sw_fs, sw_Fn, f5, f37]) ?_
  refine go_l qd12_127 rfl ?_
  refine go_s qd12_128 rfl ?_
  refine ga_iast (m := 7) qd12_129 (sw_rc hb 2 (by decide)) (show sw_st _ _ _ _ _ = some (sw_up _ _ _ _) from if_pos (by decide)) ?_
  refine go_l qd12_130 rfl ?_
  refine ga_gf (v := .ref (z + (b + 3))) qd12_131 qc12 qf3_22 (sw_rc0 hb (by decide)) rfl (by simp [sw_fd, sw_rf, sw_Fs, sw_fs, sw_Fn, f5, f37]) ?_
  refine go_l qd12_134 rfl ?_
  refine go_s qd12_135 rfl ?_
  refine ga_iast (m := 7) qd12_136 (sw_rc hb 3 (by decide)) (show sw_st _ _ _ _ _ = some (sw_up _ _ _ _) from if_pos (by decide)) ?_
  refine ga_ii (L' := [some (.ref (z + b)), some (.int (Int32.ofInt (((((0 + 1) + 1) + 1) + 1) + 1)))]) qd12_137 rfl rfl ?_
  refine ga_jp (t := 117) qd12_140 rfl ?_
  refine go_l qd12_117 rfl ?_
  refine ga_k8 qd12_118 rfl ?_
  refine ga_cgeY (t := 143) (u := ()) qd12_120 (by decide) (by decide) rfl ?_
  refine go_l qd12_123 rfl ?_
  refine ga_gf (v := .ref (z + (b + 2))) qd12_124 qc12 qf3_19 (sw_rc0 hb (by decide)) rfl (by simp [sw_fd, sw_rf, sw_Fs, sw_fs, sw_Fn, f5, f37]) ?_
  refine go_l qd12_127 rfl ?_
  refine go_s qd12_128 rfl ?_
  refine ga_iast (m := 7) qd12_129 (sw_rc hb 2 (by decide)) (show sw_st _ _ _ _ _ = some (sw_up _ _ _ _) from if_pos (by decide)) ?_
  refine go_l qd12_130 rfl ?_
  refine ga_gf (v := .ref (z + (b + 3))) qd12_131 qc12 qf3_22 (sw_rc0 hb (by decide)) rfl (by simp [sw_fd, sw_rf, sw_Fs, sw_fs, sw_Fn, f5, f37]) ?_
  refine go_l qd12_134 rfl ?_
  refine go_s qd12_135 rfl ?_
  refine ga_iast (m := 7) qd12_136 (sw_rc hb 3 (by decide)) (show sw_st _ _ _ _ _ = some (sw_up _ _ _ _) from if_pos (by decide)) ?_
  refine ga_ii (L' := [some (.ref (z + b)), some (.int (Int32.ofInt ((((((0 + 1) + 1) + 1) + 1) + 1) + 1)))]) qd12_137 rfl rfl ?_
  refine ga_jp (t := 117) qd12_140 rfl ?_
  refine go_l qd12_117 rfl ?_
  refine ga_k8 qd12_118 rfl ?_
  refine ga_cgeY (t := 143) (u := ()) qd12_120 (by decide) (by decide) rfl ?_
  refine go_l qd12_123 rfl ?_
  refine ga_gf (v := .ref (z + (b + 2))) qd12_124 qc12 qf3_19 (sw_rc0 hb (by decide)) rfl (by simp [sw_fd, sw_rf, sw_Fs, sw_fs, sw_Fn, f5, f37]) ?_
  refine go_l qd12_127 rfl ?_
  refine go_s qd12_128 rfl ?_
  refine ga_iast (m := 7) qd12_129 (sw_rc hb 2 (by decide)) (show sw_st _ _ _ _ _ = some (sw_up _ _ _ _) from if_pos (by decide)) ?_
  refine go_l qd12_130 rfl ?_
  refine ga_gf (v := .ref (z + (b + 3))) qd12_131 qc12 qf3_22 (sw_rc0 hb (by decide)) rfl (by simp [sw_fd, sw_rf, sw_Fs, sw_fs, sw_Fn, f5, f37]) ?_
  refine go_l qd12_134 rfl ?_
  refine go_s qd12_135 rfl ?_
  refine ga_iast (m := 7) qd12_136 (sw_rc hb 3 (by decide)) (show sw_st _ _ _ _ _ = some (sw_up _ _ _ _) from if_pos (by decide)) ?_
  refine ga_ii (L' := [some (.ref (z + b)), some (.int (Int32.ofInt (((((((0 + 1) + 1) + 1) + 1) + 1) + 1) + 1)))]) qd12_137 rfl rfl ?_
  refine ga_jp (t := 117) qd12_140 rfl ?_
  refine go_l qd12_117 rfl ?_
  refine ga_k8 qd12_118 rfl ?_
  refine ga_cgeN (t := 143) (u := ()) qd12_120 (by decide) (by decide) rfl ?_
  exact ga_rv qd12_143 qr12 kk
-- 0: SewingPiles$History.<init>()V
def f0 (F : sw_F) : sw_F := (f12 195 (sw_Fn (f12 171 (sw_Fn (f12 147 (sw_Fn (f12 123 (sw_Fn (f12 99 (sw_Fn (f12 75 (sw_Fn (sw_Fs F 73 0) 75)) 99)) 123)) 147)) 171)) 195))
def t0 (T : sw_T) : sw_T := (sw_up (t12 195 (sw_Tn (sw_up (t12 171 (sw_Tn (sw_up (t12 147 (sw_Tn (sw_up (t12 123 (sw_Tn (sw_up (t12 99 (sw_Tn (sw_up (t12 75 (sw_Tn (sw_Tn T 74) 75)) 74 0 ((75 : Nat) : Int)) 99)) 74 (0 + 1) ((99 : Nat) : Int)) 123)) 74 ((0 + 1) + 1) ((123 : Nat) : Int)) 147)) 74 (((0 + 1) + 1) + 1) ((147 : Nat) : Int)) 171)) 74 ((((0 + 1) + 1) + 1) + 1) ((171 : Nat) : Int)) 195)) 74 (((((0 + 1) + 1) + 1) + 1) + 1) ((195 : Nat) : Int))
theorem C0 {G : sp_G} {z cl sl : Nat} {F : sw_F} {T : sw_T} {Q : sp_R → sp_M → Prop} (kk : Q (.inl none) (sw_M z (219) (f0 F) (t0 T) (some (z + (219)), cl + 145, sl + 3402))) : sq_go G 0 0 [some (.ref (z + 73)), none] [] (sw_M z (74) F T (some (z + (74)), cl, sl)) Q := by
  refine go_l qd0_0 rfl ?_
  refine ga_ob qd0_1 qo0_3 (Nat.le_of_ble_eq_true rfl) ?_
  refine go_l qd0_4 rfl ?_
  refine ga_k8 qd0_5 rfl ?_
  refine ga_neq (m := 6) (n' := 75) qd0_7 qc0 qa0_9 (by decide) (by decide) rfl ?_
  refine ga_pr (q := z + 74) qd0_10 qc0 qg0_11 (by decide) rfl (fun f t => ⟨rfl, Nat.le_of_ble_eq_true rfl⟩) rfl ⟨qI0, rfl⟩ ?_
  refine go_s qd0_13 rfl ?_
  refine go_l (L' := [some (.ref (z + 73)), some (.int (Int32.ofInt 0))]) (st' := []) qd0_14 rfl ?_
  refine go_l qd0_15 rfl ?_
  refine ga_k8 qd0_16 rfl ?_
  refine ga_cgeY (t := 40) (u := ()) qd0_18 (by decide) (by decide) rfl ?_
  refine go_l qd0_21 rfl ?_
  refine ga_gf (v := .ref (z + 74)) qd0_22 qc0 qf0_11 (by decide) rfl rfl ?_
  refine go_l qd0_25 rfl ?_
  refine ga_new (n' := 76) qd0_26 qc0 qw0_9 (by decide) (by decide) rfl ?_
  refine go_s qd0_29 rfl ?_
  refine ga_kc (a := 75) (as := []) (rest := [.ref (z + 75), .int (Int32.ofInt 0), .ref (z + 74)]) qd0_30 qk0_17 rfl rfl (Nat.le_of_ble_eq_true rfl) (Nat.le_of_ble_eq_true rfl) rfl (C12 (b := 75) (by decide) ?_)
  show sq_go G 0 33 [some (.ref (z + 73)), some (.int (Int32.ofInt 0))] [.ref (z + 75), .int (Int32.ofInt 0), .ref (z + 74)] (sw_M z (99) _ _ (some (z + (99)), cl + 25, sl + 572)) Q
  refine ga_srm (m := 6) (r := 75) qd0_33 (by decide) (by decide) (by decide) (show sw_sr _ _ _ _ _ = some (sw_up _ _ _ _) from if_pos (by decide)) ?_
  refine ga_ii (L' := [some (.ref (z + 73)), some (.int (Int32.ofInt (0 + 1)))]) qd0_34 rfl rfl ?_
  refine ga_jp (t := 15) qd0_37 rfl ?_
  refine go_l qd0_15 rfl ?_
  refine ga_k8 qd0_16 rfl ?_
  refine ga_cgeY (t := 40) (u := ()) qd0_18 (by decide) (by decide) rfl ?_
  refine go_l qd0_21 rfl ?_
  refine ga_gf (v := .ref (z + 74)) qd0_22 qc0 qf0_11 (by decide) rfl rfl ?_
  refine go_l qd0_25 rfl ?_
  refine ga_new (n' := 100) qd0_26 qc0 qw0_9 (by decide) (by decide) rfl ?_
  refine go_s qd0_29 rfl ?_
  refine ga_kc (a := 99) (as := []) (rest := [.ref (z + 99), .int (Int32.ofInt (0 + 1)), .ref (z + 74)]) qd0_30 qk0_17 rfl rfl (Nat.le_of_ble_eq_true rfl) (Nat.le_of_ble_eq_true rfl) rfl (C12 (b := 99) (by decide) ?_)
  show sq_go G 0 33 [some (.ref (z + 73)), some (.int (Int32.ofInt (0 + 1)))] [.ref (z + 99), .int (Int32.ofInt (0 + 1)), .ref (z + 74)] (sw_M z (123) _ _ (some (z + (123)), cl + 49, sl + 1138)) Q
  refine ga_srm (m := 6) (r := 99) qd0_33 (by decide) (by decide) (by decide) (show sw_sr _ _ _ _ _ = some (sw_up _ _ _ _) from if_pos (by decide)) ?_
  refine ga_ii (L' := [some (.ref (z + 73)), some (.int (Int32.ofInt ((0 + 1) + 1)))]) qd0_34 rfl rfl ?_
  refine ga_jp (t := 15) qd0_37 rfl ?_
  refine go_l qd0_15 rfl ?_
  refine ga_k8 qd0_16 rfl ?_
  refine ga_cgeY (t := 40) (u := ()) qd0_18 (by decide) (by decide) rfl ?_
  refine go_l qd0_21 rfl ?_
  refine ga_gf (v := .ref (z + 74)) qd0_22 qc0 qf0_11 (by decide) rfl rfl ?_
  refine go_l qd0_25 rfl ?_
  refine ga_new (n' := 124) qd0_26 qc0 qw0_9 (by decide) (by decide) rfl ?_
  refine go_s qd0_29 rfl ?_
  refine ga_kc (a := 123) (as := []) (rest := [.ref (z + 123), .int (Int32.ofInt ((0 + 1) + 1)), .ref (z + 74)]) qd0_30 qk0_17 rfl rfl (Nat.le_of_ble_eq_true rfl) (Nat.le_of_ble_eq_true rfl) rfl (C12 (b := 123) (by decide) ?_)
  show sq_go G 0 33 [some (.ref (z + 73)), some (.int (Int32.ofInt ((0 + 1) + 1)))] [.ref (z + 123), .int (Int32.ofInt ((0 + 1) + 1)), .ref (z + 74)] (sw_M z (147) _ _ (some (z + (147)), cl + 73, sl + 1704)) Q
  refine ga_srm (m := 6) (r := 123) qd0_33 (by decide) (by decide) (by decide) (show sw_sr _ _ _ _ _ = some (sw_up _ _ _ _) from if_pos (by decide)) ?_
  refine ga_ii (L' := [some (.ref (z + 73)), some (.int (Int32.ofInt (((0 + 1) + 1) + 1)))]) qd0_34 rfl rfl ?_
  refine ga_jp (t := 15) qd0_37 rfl ?_
  refine go_l qd0_15 rfl ?_
  refine ga_k8 qd0_16 rfl ?_
  refine ga_cgeY (t := 40) (u := ()) qd0_18 (by decide) (by decide) rfl ?_
  refine go_l qd0_21 rfl ?_
  refine ga_gf (v := .ref (z + 74)) qd0_22 qc0 qf0_11 (by decide) rfl rfl ?_
  refine go_l qd0_25 rfl ?_
  refine ga_new (n' := 148) qd0_26 qc0 qw0_9 (by decide) (by decide) rfl ?_
  refine go_s qd0_29 rfl ?_
  refine ga_kc (a := 147) (as := []) (rest := [.ref (z + 147), .int (Int32.ofInt (((0 + 1) + 1) + 1)), .ref (z + 74)]) qd0_30 qk0_17 rfl rfl (Nat.le_of_ble_eq_true rfl) (Nat.le_of_ble_eq_true rfl) rfl (C12 (b := 147) (by decide) ?_)
  show sq_go G 0 33 [some (.ref (z + 73)), some (.int (Int32.ofInt (((0 + 1) + 1) + 1)))] [.ref (z + 147), .int (Int32.ofInt (((0 + 1) + 1) + 1)), .ref (z + 74)] (sw_M z (171) _ _ (some (z + (171)), cl + 97, sl + 2270)) Q
  refine ga_srm (m := 6) (r := 147) qd0_33 (by decide) (by decide) (by decide) (show sw_sr _ _ _ _ _ = some (sw_up _ _ _ _) from if_pos (by decide)) ?_
  refine ga_ii (L' := [some (.ref (z + 73)), some (.int (Int32.ofInt ((((0 + 1) + 1) + 1) + 1)))]) qd0_34 rfl rfl ?_
  refine ga_jp (t := 15) qd0_37 rfl ?_
  refine go_l qd0_15 rfl ?_
  refine ga_k8 qd0_16 rfl ?_
  refine ga_cgeY (t := 40) (u := ()) qd0_18 (by decide) (by decide) rfl ?_
  refine go_l qd0_21 rfl ?_
  refine ga_gf (v := .ref (z + 74)) qd0_22 qc0 qf0_11 (by decide) rfl rfl ?_
  refine go_l qd0_25 rfl ?_
  refine ga_new (n' := 172) qd0_26 qc0 qw0_9 (by decide) (by decide) rfl ?_
  refine go_s qd0_29 rfl ?_
  refine ga_kc (a := 171) (as := []) (rest := [.ref (z + 171), .int (Int32.ofInt ((((0 + 1) + 1) + 1) + 1)), .ref (z + 74)]) qd0_30 qk0_17 rfl rfl (Nat.le_of_ble_eq_true rfl) (Nat.le_of_ble_eq_true rfl) rfl (C12 (b := 171) (by decide) ?_)
  show sq_go G 0 33 [some (.ref (z + 73)), some (.int (Int32.ofInt ((((0 + 1) + 1) + 1) + 1)))] [.ref (z + 171), .int (Int32.ofInt ((((0 + 1) + 1) + 1) + 1)), .ref (z + 74)] (sw_M z (195) _ _ (some (z + (195)), cl + 121, sl + 2836)) Q
  refine ga_srm (m := 6) (r := 171) qd0_33 (by decide) (by decide) (by decide) (show sw_sr _ _ _ _ _ = some (sw_up _ _ _ _) from if_pos (by decide)) ?_
  refine ga_ii (L' := [some (.ref (z + 73)), some (.int (Int32.ofInt (((((0 + 1) + 1) + 1) + 1) + 1)))]) qd0_34 rfl rfl ?_
  refine ga_jp (t := 15) qd0_37 rfl ?_
  refine go_l qd0_15 rfl ?_
  refine ga_k8 qd0_16 rfl ?_
  refine ga_cgeY (t := 40) (u := ()) qd0_18 (by decide) (by decide) rfl ?_
  refine go_l qd0_21 rfl ?_
  refine ga_gf (v := .ref (z + 74)) qd0_22 qc0 qf0_11 (by decide) rfl rfl ?_
  refine go_l qd0_25 rfl ?_
  refine ga_new (n' := 196) qd0_26 qc0 qw0_9 (by decide) (by decide) rfl ?_
  refine go_s qd0_29 rfl ?_
  refine ga_kc (a := 195) (as := []) (rest := [.ref (z + 195), .int (Int32.ofInt (((((0 + 1) + 1) + 1) + 1) + 1)), .ref (z + 74)]) qd0_30 qk0_17 rfl rfl (Nat.le_of_ble_eq_true rfl) (Nat.le_of_ble_eq_true rfl) rfl (C12 (b := 195) (by decide) ?_)
  show sq_go G 0 33 [some (.ref (z + 73)), some (.int (Int32.ofInt (((((0 + 1) + 1) + 1) + 1) + 1)))] [.ref (z + 195), .int (Int32.ofInt (((((0 + 1) + 1) + 1) + 1) + 1)), .ref (z + 74)] (sw_M z (219) _ _ (some (z + (219)), cl + 145, sl + 3402)) Q
  refine ga_srm (m := 6) (r := 195) qd0_33 (by decide) (by decide) (by decide) (show sw_sr _ _ _ _ _ = some (sw_up _ _ _ _) from if_pos (by decide)) ?_
  refine ga_ii (L' := [some (.ref (z + 73)), some (.int (Int32.ofInt ((((((0 + 1) + 1) + 1) + 1) + 1) + 1)))]) qd0_34 rfl rfl ?_
  refine ga_jp (t := 15) qd0_37 rfl ?_
  refine go_l qd0_15 rfl ?_
  refine ga_k8 qd0_16 rfl ?_
  refine ga_cgeN (t := 40) (u := ()) qd0_18 (by decide) (by decide) rfl ?_
  exact ga_rv qd0_40 qr0 kk
-- 4: SewingPiles$OrderText.<init>()V
def f4 (F : sw_F) : sw_F := (sw_Fs F 219 0)
def t4 (T : sw_T) : sw_T := (sw_Tn T 220)
theorem C4 {G : sp_G} {z cl sl : Nat} {F : sw_F} {T : sw_T} {Q : sp_R → sp_M → Prop} (kk : Q (.inl none) (sw_M z (221) (f4 F) (t4 T) (some (z + (221)), cl + 1, sl + 60))) : sq_go G 4 0 [some (.ref (z + 219))] [] (sw_M z (220) F T (some (z + (220)), cl, sl)) Q := by
  refine go_l qd4_0 rfl ?_
  refine ga_ob qd4_1 qo4_3 (Nat.le_of_ble_eq_true rfl) ?_
  refine go_l qd4_4 rfl ?_
  refine ga_k8 qd4_5 rfl ?_
  refine ga_neax (m := 60) (n' := 221) 2 (by decide) rfl qd4_7 (by decide) (by decide) rfl ?_
  refine ga_pr (q := z + 220) qd4_9 qc4 qg1_9 (by decide) rfl (fun f t => ⟨rfl, Nat.le_of_ble_eq_true rfl⟩) rfl ⟨qI4, rfl⟩ ?_
  exact ga_rv qd4_12 qr4 kk
-- 46: SewingPiles.<init>()V
def f46 (F : sw_F) : sw_F := (sw_Fs (f4 (sw_Fn (sw_Fs (f0 (sw_Fn (sw_Fs (f12 49 (sw_Fn (sw_Fs (f12 25 (sw_Fn (sw_Fs (f12 1 (sw_Fn F 1)) 0 0) 25)) 0 1) 49)) 0 2) 73)) 0 3) 219)) 0 4)
def t46 (T : sw_T) : sw_T := (t4 (sw_Tn (t0 (sw_Tn (t12 49 (sw_Tn (t12 25 (sw_Tn (t12 1 (sw_Tn T 1)) 25)) 49)) 73)) 219))
theorem C46 {G : sp_G} {z cl sl : Nat} {F : sw_F} {T : sw_T} {Q : sp_R → sp_M → Prop} (kk : Q (.inl none) (sw_M z (221) (f46 F) (t46 T) (some (z + (221)), cl + 220, sl + 5164))) : sq_go G 46 0 [some (.ref (z + 0))] [] (sw_M z (1) F T (some (z + (1)), cl, sl)) Q := by
  refine go_l qd46_0 rfl ?_
  refine ga_ob qd46_1 qo46_1 (Nat.le_of_ble_eq_true rfl) ?_
  refine go_l qd46_4 rfl ?_
  refine ga_new (n' := 2) qd46_5 qc46 qw5_7 (by decide) (by decide) rfl ?_
  refine go_s qd46_8 rfl ?_
  refine ga_kc (a := 1) (as := []) (rest := [.ref (z + 1), .ref (z + 0)]) qd46_9 qk46_9 rfl rfl (Nat.le_of_ble_eq_true rfl) (Nat.le_of_ble_eq_true rfl) rfl (C12 (b := 1) (by decide) ?_)
  show sq_go G 46 12 [some (.ref (z + 0))] [.ref (z + 1), .ref (z + 0)] (sw_M z (25) _ _ (some (z + (25)), cl + 24, sl + 566)) Q
  refine ga_pr (q := z + 1) qd46_12 qc46 qg5_10 (by decide) rfl (fun f t => ⟨rfl, Nat.le_of_ble_eq_true rfl⟩) rfl ⟨qI46, rfl⟩ ?_
  refine go_l qd46_15 rfl ?_
  refine ga_new (n' := 26) qd46_16 qc46 qw5_7 (by decide) (by decide) rfl ?_
  refine go_s qd46_19 rfl ?_
  refine ga_kc (a := 25) (as := []) (rest := [.ref (z + 25), .ref (z + 0)]) qd46_20 qk46_9 rfl rfl (Nat.le_of_ble_eq_true rfl) (Nat.le_of_ble_eq_true rfl) rfl (C12 (b := 25) (by decide) ?_)
  show sq_go G 46 23 [some (.ref (z + 0))] [.ref (z + 25), .ref (z + 0)] (sw_M z (49) _ _ (some (z + (49)), cl + 48, sl + 1132)) Q
  refine ga_pr (q := z + 25) qd46_23 qc46 qg5_16 (by decide) rfl (fun f t => ⟨rfl, Nat.le_of_ble_eq_true rfl⟩) rfl ⟨qI46, rfl⟩ ?_
  refine go_l qd46_26 rfl ?_
  refine ga_new (n' := 50) qd46_27 qc46 qw5_7 (by decide) (by decide) rfl ?_
  refine go_s qd46_30 rfl ?_
  refine ga_kc (a := 49) (as := []) (rest := [.ref (z + 49), .ref (z + 0)]) qd46_31 qk46_9 rfl rfl (Nat.le_of_ble_eq_true rfl) (Nat.le_of_ble_eq_true rfl) rfl (C12 (b := 49) (by decide) ?_)
  show sq_go G 46 34 [some (.ref (z + 0))] [.ref (z + 49), .ref (z + 0)] (sw_M z (73) _ _ (some (z + (73)), cl + 72, sl + 1698)) Q
  refine ga_pr (q := z + 49) qd46_34 qc46 qg5_19 (by decide) rfl (fun f t => ⟨rfl, Nat.le_of_ble_eq_true rfl⟩) rfl ⟨qI46, rfl⟩ ?_
  refine go_l qd46_37 rfl ?_
  refine ga_new (n' := 74) qd46_38 qc46 qw5_22 (by decide) (by decide) rfl ?_
  refine go_s qd46_41 rfl ?_
  refine ga_kc (a := 73) (as := []) (rest := [.ref (z + 73), .ref (z + 0)]) qd46_42 qk46_24 rfl rfl (Nat.le_of_ble_eq_true rfl) (Nat.le_of_ble_eq_true rfl) rfl (C0 ?_)
  show sq_go G 46 45 [some (.ref (z + 0))] [.ref (z + 73), .ref (z + 0)] (sw_M z (219) _ _ (some (z + (219)), cl + 218, sl + 5102)) Q
  refine ga_pr (q := z + 73) qd46_45 qc46 qg5_25 (by decide) rfl (fun f t => ⟨rfl, Nat.le_of_ble_eq_true rfl⟩) rfl ⟨qI46, rfl⟩ ?_
  refine go_l qd46_48 rfl ?_
  refine ga_new (n' := 220) qd46_49 qc46 qw5_29 (by decide) (by decide) rfl ?_
  refine go_s qd46_52 rfl ?_
  refine ga_kc (a := 219) (as := []) (rest := [.ref (z + 219), .ref (z + 0)]) qd46_53 qk46_31 rfl rfl (Nat.le_of_ble_eq_true rfl) (Nat.le_of_ble_eq_true rfl) rfl (C4 ?_)
  show sq_go G 46 56 [some (.ref (z + 0))] [.ref (z + 219), .ref (z + 0)] (sw_M z (221) _ _ (some (z + (221)), cl + 220, sl + 5164)) Q
  refine ga_pr (q := z + 219) qd46_56 qc46 qg5_32 (by decide) rfl (fun f t => ⟨rfl, Nat.le_of_ble_eq_true rfl⟩) rfl ⟨qI46, rfl⟩ ?_
  exact ga_rv qd46_59 qr46 kk
-- 73: SewingPilesLaw.law([I)Z
def f73 (F : sw_F) : sw_F := (f46 (sw_Fn F 0))
def t73 (T : sw_T) : sw_T := (t46 (sw_Tn T 0))
theorem C73 {G : sp_G} {z cl sl : Nat} {F : sw_F} {T : sw_T} {Q : sp_R → sp_M → Prop} (kk : sq_go G 73 8 [some (.ref G.1), some (.ref (z + 0)), none, none, none, none, none, none, none, none, none, none, none, none, none] [] (sw_M z (221) (f73 F) (t73 T) (some (z + (221)), cl + 221, sl + 5170)) Q) : sq_go G 73 0 [some (.ref G.1), none, none, none, none, none, none, none, none, none, none, none, none, none, none] [] (sw_M z (0) F T (some (z + (0)), cl, sl)) Q := by
  refine ga_new (n' := 1) qd73_0 qc73 qw7_13 (by decide) (by decide) rfl ?_
  refine go_s qd73_3 rfl ?_
  refine ga_kc (a := 0) (as := []) (rest := [.ref (z + 0)]) qd73_4 qk73_68 rfl rfl (Nat.le_of_ble_eq_true rfl) (Nat.le_of_ble_eq_true rfl) rfl (C46 ?_)
  show sq_go G 73 7 [some (.ref G.1), none, none, none, none, none, none, none, none, none, none, none, none, none, none] [.ref (z + 0)] (sw_M z (221) _ _ (some (z + (221)), cl + 221, sl + 5170)) Q
  refine go_l (L' := [some (.ref G.1), some (.ref (z + 0)), none, none, none, none, none, none, none, none, none, none, none, none, none]) (st' := []) qd73_7 rfl ?_
  exact kk
