/-! ===== the abstract machine's rows that touch no cell: each is the machine's own ===== -/
section SPA
variable {p : Program} {l : Launch} {e : Env} {R : Room} {s : State} {m : MethodId} {args : Array Value} {below : List Frame} {meth : Method} {c : Code} {H : Heap} {locs : List Loc} {cells slots : Nat} {Q : State → Prop}
variable {cc : ByteArray} {pc len nL : Nat} {ls : Array Slot} {st st' : List Value} {i : Instr} {L L' : sp_L}
theorem sp_ok32_of {r : UInt32} (h : sp_ok32 r = true) : vf_n32 r := by unfold sp_ok32 at h; unfold vf_n32; exact of_decide_eq_true h
theorem sp_ok64_of {r : UInt64} (h : sp_ok64 r = true) : vf_n64 r := by unfold sp_ok64 at h; unfold vf_n64; exact of_decide_eq_true h
theorem sp_pu_of {v : Option Value} (h : sp_pu L v st = some (L', st')) : ∃ w, v = some w ∧ L' = L ∧ st' = w :: st := by
  cases v with
  | none => cases h
  | some w => cases h; exact ⟨w, rfl, rfl, rfl⟩
theorem sp_ldi_of {k : Nat} {w : Value} (h : sp_ldi L k = some w) : ∃ x, w = .int x ∧ sp_ld L k = some (.int x) := by
  unfold sp_ldi at h
  split at h
  · rename_i x hx; cases h; exact ⟨x, rfl, hx⟩
  · cases h
theorem sp_ldl_of {k : Nat} {w : Value} (h : sp_ldl L k = some w) : ∃ x, w = .long x ∧ sp_ld L k = some (.long x) := by
  unfold sp_ldl at h
  split at h
  · rename_i x hx; cases h; exact ⟨x, rfl, hx⟩
  · cases h
theorem sp_ldf_of {k : Nat} {w : Value} (h : sp_ldf L k = some w) : ∃ x, w = .float x ∧ sp_ld L k = some (.float x) := by
  unfold sp_ldf at h
  split at h
  · rename_i x hx; cases h; exact ⟨x, rfl, hx⟩
  · cases h
theorem sp_ldd_of {k : Nat} {w : Value} (h : sp_ldd L k = some w) : ∃ x, w = .double x ∧ sp_ld L k = some (.double x) := by
  unfold sp_ldd at h
  split at h
  · rename_i x hx; cases h; exact ⟨x, rfl, hx⟩
  · cases h
theorem sp_lda_of {k : Nat} {w : Value} (h : sp_lda L k = some w) : ∃ x, w = .ref x ∧ sp_ld L k = some (.ref x) := by
  unfold sp_lda at h
  split at h
  · rename_i x hx; cases h; exact ⟨x, rfl, hx⟩
  · cases h
theorem sp_st_of {o : Option sp_L} (h : o.map (fun l => (l, st)) = some (L', st')) : o = some L' ∧ st' = st := by
  obtain ⟨w, h1, h2⟩ := Option.map_eq_some_iff.mp h
  cases h2
  exact ⟨h1, rfl⟩
set_option maxHeartbeats 1000000 in
theorem sp_loc_sound (hx : p.tables.exec = Jvm.exec) (hb : c.code = cc) (hdg : decode cc pc = .ok (i, len)) (h : sp_loc i len L st = some (L', st')) (hl : sp_lr ls nL L)
    (k : ∀ ls', sp_lr ls' nL L' → W p l e R s m args below meth c H locs cells slots Q (F0 m (pc + len) ls' st')) : W p l e R s m args below meth c H locs cells slots Q (F0 m pc ls st) := by
  have hpr : ∀ (j : Nat) (w : Value), sp_ld L j = some w → (j, w) ∈ sp_prs L := fun j w hw => sp_prs_mem.mpr hw
  unfold sp_loc at h
  split at h
  · obtain ⟨w, h1, rfl, rfl⟩ := sp_pu_of h
    obtain ⟨x, rfl, h2⟩ := sp_ldi_of h1
    exact lv_iload hx hb hdg (sp_lr_at hl h2) (k _ hl)
  · obtain ⟨w, h1, rfl, rfl⟩ := sp_pu_of h
    obtain ⟨x, rfl, h2⟩ := sp_ldi_of h1
    exact lv_iload_n hx hb hdg rfl (sp_lr_at hl h2) (k _ hl)
  · obtain ⟨w, h1, rfl, rfl⟩ := sp_pu_of h
    obtain ⟨x, rfl, h2⟩ := sp_ldl_of h1
    exact lv_lload hx hb hdg (sp_lr_at hl h2) (k _ hl)
  · obtain ⟨w, h1, rfl, rfl⟩ := sp_pu_of h
    obtain ⟨x, rfl, h2⟩ := sp_ldl_of h1
    exact lv_lload_n hx hb hdg rfl (sp_lr_at hl h2) (k _ hl)
  · obtain ⟨w, h1, rfl, rfl⟩ := sp_pu_of h
    obtain ⟨x, rfl, h2⟩ := sp_ldf_of h1
    exact lv_fload hx hb hdg (sp_lr_at hl h2) (k _ hl)
  · obtain ⟨w, h1, rfl, rfl⟩ := sp_pu_of h
    obtain ⟨x, rfl, h2⟩ := sp_ldf_of h1
    exact lv_fload_n hx hb hdg rfl (sp_lr_at hl h2) (k _ hl)
  · obtain ⟨w, h1, rfl, rfl⟩ := sp_pu_of h
    obtain ⟨x, rfl, h2⟩ := sp_ldd_of h1
    exact lv_dload hx hb hdg (sp_lr_at hl h2) (k _ hl)
  · obtain ⟨w, h1, rfl, rfl⟩ := sp_pu_of h
    obtain ⟨x, rfl, h2⟩ := sp_ldd_of h1
    exact lv_dload_n hx hb hdg rfl (sp_lr_at hl h2) (k _ hl)
  · obtain ⟨w, h1, rfl, rfl⟩ := sp_pu_of h
    obtain ⟨x, rfl, h2⟩ := sp_lda_of h1
    exact lv_aload hx hb hdg (sp_lr_at hl h2) (k _ hl)
  · obtain ⟨w, h1, rfl, rfl⟩ := sp_pu_of h
    obtain ⟨x, rfl, h2⟩ := sp_lda_of h1
    exact lv_aload_n hx hb hdg rfl (sp_lr_at hl h2) (k _ hl)
  · obtain ⟨h1, rfl⟩ := sp_st_of h
    exact lv_istore hx hb hdg (sp_lr_has hl) (hl.2.2.1 ▸ (sp_s1_len h1).1) rfl (fun ls' h' => k ls' (sp_lr_s1 hl.2.2.1 hpr h1 h'))
  · obtain ⟨h1, rfl⟩ := sp_st_of h
    exact lv_istore_n hx hb hdg rfl (sp_lr_has hl) (hl.2.2.1 ▸ (sp_s1_len h1).1) rfl (fun ls' h' => k ls' (sp_lr_s1 hl.2.2.1 hpr h1 h'))
  · obtain ⟨h1, rfl⟩ := sp_st_of h
    exact lv_lstore hx hb hdg (sp_lr_has hl) (hl.2.2.1 ▸ (sp_s2_len h1).1) rfl (fun ls' h' => k ls' (sp_lr_s2 hl.2.2.1 hpr h1 h'))
  · obtain ⟨h1, rfl⟩ := sp_st_of h
    exact lv_lstore_n hx hb hdg rfl (sp_lr_has hl) (hl.2.2.1 ▸ (sp_s2_len h1).1) rfl (fun ls' h' => k ls' (sp_lr_s2 hl.2.2.1 hpr h1 h'))
  · obtain ⟨h1, rfl⟩ := sp_st_of h
    exact lv_fstore hx hb hdg (sp_lr_has hl) (hl.2.2.1 ▸ (sp_s1_len h1).1) rfl (fun ls' h' => k ls' (sp_lr_s1 hl.2.2.1 hpr h1 h'))
  · obtain ⟨h1, rfl⟩ := sp_st_of h
    exact lv_fstore_n hx hb hdg rfl (sp_lr_has hl) (hl.2.2.1 ▸ (sp_s1_len h1).1) rfl (fun ls' h' => k ls' (sp_lr_s1 hl.2.2.1 hpr h1 h'))
  · obtain ⟨h1, rfl⟩ := sp_st_of h
    exact lv_dstore hx hb hdg (sp_lr_has hl) (hl.2.2.1 ▸ (sp_s2_len h1).1) rfl (fun ls' h' => k ls' (sp_lr_s2 hl.2.2.1 hpr h1 h'))
  · obtain ⟨h1, rfl⟩ := sp_st_of h
    exact lv_dstore_n hx hb hdg rfl (sp_lr_has hl) (hl.2.2.1 ▸ (sp_s2_len h1).1) rfl (fun ls' h' => k ls' (sp_lr_s2 hl.2.2.1 hpr h1 h'))
  · obtain ⟨h1, rfl⟩ := sp_st_of h
    exact lv_astore hx hb hdg (sp_lr_has hl) (hl.2.2.1 ▸ (sp_s1_len h1).1) rfl (fun ls' h' => k ls' (sp_lr_s1 hl.2.2.1 hpr h1 h'))
  · obtain ⟨h1, rfl⟩ := sp_st_of h
    exact lv_astore_n hx hb hdg rfl (sp_lr_has hl) (hl.2.2.1 ▸ (sp_s1_len h1).1) rfl (fun ls' h' => k ls' (sp_lr_s1 hl.2.2.1 hpr h1 h'))
  · split at h
    · rename_i x hxx
      obtain ⟨h1, rfl⟩ := sp_st_of h
      have hh : lv_has ls nL ((_, .int x) :: sp_prs L) := ⟨hl.1, hl.2.1, fun q hq => by
        rcases List.mem_cons.mp hq with rfl | hq
        · exact sp_lr_at hl hxx
        · exact (sp_lr_has hl).2.2 q hq⟩
      exact lv_iinc (k := 0) hx hb hdg hh rfl rfl (hl.2.2.1 ▸ (sp_s1_len h1).1) rfl (fun ls' h' => k ls' (sp_lr_s1 hl.2.2.1 (fun j w hw => List.mem_cons_of_mem _ (hpr j w hw)) h1 h'))
    · cases h
  · cases h
set_option maxHeartbeats 1000000 in
theorem sp_stk_sound (hx : p.tables.exec = Jvm.exec) (hb : c.code = cc) (hdg : decode cc pc = .ok (i, len)) (h : sp_stk i len st = some st')
    (k : W p l e R s m args below meth c H locs cells slots Q (F0 m (pc + len) ls st')) : W p l e R s m args below meth c H locs cells slots Q (F0 m pc ls st) := by
  unfold sp_stk at h
  split at h
  · cases h; exact lv_iconst hx hb hdg rfl k
  · cases h; exact lv_bipush hx hb hdg rfl k
  · cases h; exact lv_sipush hx hb hdg rfl k
  · cases h; exact lv_lconst hx hb hdg rfl k
  · rename_i n
    cases h
    match n, hdg, k with
    | 0, hdg, k => exact lv_fconst0 hx hb hdg k
    | 1, hdg, k => exact lv_fconst1 hx hb hdg k
    | 2, hdg, k => exact lv_fconst2 hx hb hdg k
  · rename_i n
    cases h
    match n, hdg, k with
    | 0, hdg, k => exact lv_dconst0 hx hb hdg k
    | 1, hdg, k => exact lv_dconst1 hx hb hdg k
  · cases h; exact lv_iadd hx hb hdg k
  · cases h; exact lv_isub hx hb hdg k
  · cases h; exact lv_imul hx hb hdg k
  · cases h; exact lv_iand hx hb hdg k
  · cases h; exact lv_ishl hx hb hdg k
  · cases h; exact lv_ishr hx hb hdg k
  · split at h
    · cases h
    · rename_i hne; cases h; exact lv_idiv hx hb hdg hne k
  · split at h
    · cases h
    · rename_i hne; cases h; exact lv_irem hx hb hdg hne k
  · cases h; exact lv_ladd hx hb hdg k
  · cases h; exact lv_lmul hx hb hdg k
  · cases h; exact lv_lshl hx hb hdg rfl k
  · cases h; exact W.lcmp hx hb hdg k
  · cases h; exact lv_i2l hx hb hdg rfl k
  · cases h; exact lv_i2f hx hb hdg k
  · cases h; exact lv_i2d hx hb hdg k
  · cases h; exact lv_i2c hx hb hdg rfl k
  · cases h; exact lv_f2i hx hb hdg k
  · cases h; exact lv_d2l hx hb hdg k
  · split at h
    · rename_i hne; cases h; exact lv_f2d hx hb hdg (sp_ok64_of hne) k
    · cases h
  · split at h
    · rename_i hne; cases h; exact lv_fmul hx hb hdg (sp_ok32_of hne) k
    · cases h
  · split at h
    · rename_i hne; cases h; exact lv_fsub hx hb hdg (sp_ok32_of hne) k
    · cases h
  · split at h
    · rename_i hne; cases h; exact lv_fdiv hx hb hdg (sp_ok32_of hne) k
    · cases h
  · split at h
    · rename_i hne; cases h; exact lv_dmul hx hb hdg (sp_ok64_of hne) k
    · cases h
  · split at h
    · rename_i hne; cases h; exact lv_dsub hx hb hdg (sp_ok64_of hne) k
    · cases h
  · split at h
    · rename_i hne; cases h; exact lv_ddiv hx hb hdg (sp_ok64_of hne) k
    · cases h
  · cases h; exact lv_fcmp hx hb hdg k
  · cases h; exact lv_dcmp hx hb hdg k
  · split at h
    · rename_i hc; cases h; exact lv_dup hx hb hdg hc k
    · cases h
  · split at h
    · rename_i hc; cases h; exact lv_pop hx hb hdg hc k
    · cases h
  · split at h
    · rename_i hc; cases h; exact lv_dup2_11 hx hb hdg hc.1 hc.2 k
    · cases h
  · cases h
theorem sp_tg_of {off : Int} {t : Nat} {st : List Value} {pc' : Nat} (h : (sp_tg pc off).map (fun t => (t, st)) = some (pc', st')) : (pc : Int) + off = (pc' : Int) ∧ st' = st := by
  obtain ⟨t, h1, h2⟩ := Option.map_eq_some_iff.mp h
  cases h2
  unfold sp_tg at h1
  split at h1
  · rename_i hh
    cases h1
    exact ⟨(Int.toNat_of_nonneg hh).symm, rfl⟩
  · cases h1
theorem sp_br_of {q : Bool} {off : Int} {st : List Value} {pc' : Nat} (h : sp_br q pc off st = some (pc', st')) : ∃ t : Nat, (pc : Int) + off = (t : Int) ∧ pc' = (if q then t else pc + 3) ∧ st' = st := by
  unfold sp_br at h
  obtain ⟨t, h1, h2⟩ := Option.map_eq_some_iff.mp h
  cases h2
  unfold sp_tg at h1
  split at h1
  · rename_i hh
    cases h1
    exact ⟨_, (Int.toNat_of_nonneg hh).symm, rfl, rfl⟩
  · cases h1
theorem sp_br_t {P : Prop} [Decidable P] {t pc : Nat} {W : Nat → Prop} (k : W (if decide P then t else pc + 3)) (h : P) : W t := by rw [if_pos (decide_eq_true h)] at k; exact k
theorem sp_br_f {P : Prop} [Decidable P] {t pc : Nat} {W : Nat → Prop} (k : W (if decide P then t else pc + 3)) (h : ¬ P) : W (pc + 3) := by rw [if_neg (by simpa using h)] at k; exact k
set_option maxHeartbeats 1000000 in
theorem sp_jmp_sound (hx : p.tables.exec = Jvm.exec) (hb : c.code = cc) {pc' : Nat} (hdg : decode cc pc = .ok (i, len)) (h : sp_jmp i len pc st = some (pc', st'))
    (k : W p l e R s m args below meth c H locs cells slots Q (F0 m pc' ls st')) : W p l e R s m args below meth c H locs cells slots Q (F0 m pc ls st) := by
  unfold sp_jmp at h
  split at h
  · obtain ⟨h1, rfl⟩ := sp_tg_of (t := 0) h
    exact lv_goto hx hb hdg h1 k
  · obtain ⟨t, h2, rfl, rfl⟩ := sp_br_of h
    exact lv_if_eq hx hb hdg h2 (fun q => sp_br_t (W := fun z => W p l e R s m args below meth c H locs cells slots Q (F0 m z ls _)) k q) (fun q => sp_br_f (W := fun z => W p l e R s m args below meth c H locs cells slots Q (F0 m z ls _)) k q)
  · obtain ⟨t, h2, rfl, rfl⟩ := sp_br_of h
    exact lv_if_ne hx hb hdg h2 (fun q => sp_br_t (W := fun z => W p l e R s m args below meth c H locs cells slots Q (F0 m z ls _)) k q) (fun q => sp_br_f (W := fun z => W p l e R s m args below meth c H locs cells slots Q (F0 m z ls _)) k (not_not_intro q))
  · obtain ⟨t, h2, rfl, rfl⟩ := sp_br_of h
    exact lv_if_lt hx hb hdg h2 (fun q => sp_br_t (W := fun z => W p l e R s m args below meth c H locs cells slots Q (F0 m z ls _)) k q) (fun q => sp_br_f (W := fun z => W p l e R s m args below meth c H locs cells slots Q (F0 m z ls _)) k q)
  · obtain ⟨t, h2, rfl, rfl⟩ := sp_br_of h
    exact lv_if_ge hx hb hdg h2 (fun q => sp_br_t (W := fun z => W p l e R s m args below meth c H locs cells slots Q (F0 m z ls _)) k q) (fun q => sp_br_f (W := fun z => W p l e R s m args below meth c H locs cells slots Q (F0 m z ls _)) k q)
  · obtain ⟨t, h2, rfl, rfl⟩ := sp_br_of h
    exact lv_if_gt hx hb hdg h2 (fun q => sp_br_t (W := fun z => W p l e R s m args below meth c H locs cells slots Q (F0 m z ls _)) k q) (fun q => sp_br_f (W := fun z => W p l e R s m args below meth c H locs cells slots Q (F0 m z ls _)) k q)
  · obtain ⟨t, h2, rfl, rfl⟩ := sp_br_of h
    exact lv_if_le hx hb hdg h2 (fun q => sp_br_t (W := fun z => W p l e R s m args below meth c H locs cells slots Q (F0 m z ls _)) k q) (fun q => sp_br_f (W := fun z => W p l e R s m args below meth c H locs cells slots Q (F0 m z ls _)) k q)
  · obtain ⟨t, h2, rfl, rfl⟩ := sp_br_of h
    exact lv_icmp_eq hx hb hdg h2 (fun q => sp_br_t (W := fun z => W p l e R s m args below meth c H locs cells slots Q (F0 m z ls _)) k q) (fun q => sp_br_f (W := fun z => W p l e R s m args below meth c H locs cells slots Q (F0 m z ls _)) k q)
  · obtain ⟨t, h2, rfl, rfl⟩ := sp_br_of h
    exact lv_icmp_ne hx hb hdg h2 (fun q => sp_br_t (W := fun z => W p l e R s m args below meth c H locs cells slots Q (F0 m z ls _)) k q) (fun q => sp_br_f (W := fun z => W p l e R s m args below meth c H locs cells slots Q (F0 m z ls _)) k (not_not_intro q))
  · obtain ⟨t, h2, rfl, rfl⟩ := sp_br_of h
    exact lv_icmp_lt hx hb hdg h2 (fun q => sp_br_t (W := fun z => W p l e R s m args below meth c H locs cells slots Q (F0 m z ls _)) k q) (fun q => sp_br_f (W := fun z => W p l e R s m args below meth c H locs cells slots Q (F0 m z ls _)) k q)
  · obtain ⟨t, h2, rfl, rfl⟩ := sp_br_of h
    exact lv_icmp_ge hx hb hdg h2 (fun q => sp_br_t (W := fun z => W p l e R s m args below meth c H locs cells slots Q (F0 m z ls _)) k q) (fun q => sp_br_f (W := fun z => W p l e R s m args below meth c H locs cells slots Q (F0 m z ls _)) k q)
  · obtain ⟨t, h2, rfl, rfl⟩ := sp_br_of h
    exact lv_icmp_gt hx hb hdg h2 (fun q => sp_br_t (W := fun z => W p l e R s m args below meth c H locs cells slots Q (F0 m z ls _)) k q) (fun q => sp_br_f (W := fun z => W p l e R s m args below meth c H locs cells slots Q (F0 m z ls _)) k q)
  · obtain ⟨t, h2, rfl, rfl⟩ := sp_br_of h
    exact lv_icmp_le hx hb hdg h2 (fun q => sp_br_t (W := fun z => W p l e R s m args below meth c H locs cells slots Q (F0 m z ls _)) k q) (fun q => sp_br_f (W := fun z => W p l e R s m args below meth c H locs cells slots Q (F0 m z ls _)) k q)
  · cases h; exact lv_ifnull hx hb hdg k
  · split at h
    · rename_i hc
      obtain ⟨h1, rfl⟩ := sp_tg_of (t := 0) h
      exact lv_tableOut hx hb hdg hc h1 k
    · rename_i hc
      obtain ⟨off, ho, h3⟩ := Option.bind_eq_some_iff.mp h
      obtain ⟨h1, rfl⟩ := sp_tg_of (t := 0) h3
      exact lv_tableIn hx hb hdg (fun q => hc (Or.inl q)) (fun q => hc (Or.inr q)) ho h1 k
  · split at h
    · rename_i hc
      obtain ⟨h1, rfl⟩ := sp_tg_of (t := 0) h
      exact lv_lookup hx hb hdg hc rfl h1 k
    · cases h
  · cases h
end SPA
