/-! ===== what the abstract machine comes to, the machine comes to ===== -/
def sp_ws (e : sp_E) : List Cond := sp_code e :: sp_AW
/-- soundness of n rounds: from a place of a method, with a relation between cells -/
def sp_Snd (D : va_G) (dA : Nat → ClassId) (A : Nat → Prop) (G : sp_G) (n : Nat) : Prop :=
  ∀ (y pc : Nat) (L : sp_L) (st : List Value) (M : sp_M) (r : sp_R) (M' : sp_M), sp_exec G n y pc L st M = some (r, M') →
  ∀ (p : Program) (l : Launch) (e0 : Env) (R : Room) (s : State) (m : MethodId) (args : Array Value) (below : List Frame) (meth : Method) (c : Code) (H : Heap) (locs : List Loc) (cells slots : Nat) (Q : State → Prop) (ls : Array Slot) (c0 s0 : Nat) (e : sp_E),
  l.stackTraces = false → sp_T[y]? = some e → sp_cx p s m args meth c e.2.1 D dA A G e.2.2.2.2.2.1 (decide (e.2.2.2.2.2.2.2.2.2 = 2)) → c.maxLocals = e.2.2.1 → (e.2.2.2.2.1 ≠ [] ∨ (∃ E, r = .inr E) → c.exceptionTable.toList = tableOf e.2.2.2.2.1) → e.2.2.2.2.2.2.2.1 ≤ R.frames → e.2.2.2.2.2.2.2.2.1 ≤ R.locals →
  va_S A s.heap H locs → sp_rel D dA A M H → sp_lr ls e.2.2.1 L → M.2.1 = c0 + cells → M.2.2.1 = s0 + slots → M'.2.1 ≤ c0 + R.cells → M'.2.2.1 ≤ s0 + R.slots →
  (∀ (v : Option Value) (pc : Nat) (ls : Array Slot) (st : List Value) (H1 : Heap) (locs1 : List Loc) (cells1 slots1 : Nat) (i : Instr) (len : Nat), r = .inl v → decode e.2.1 pc = .ok (i, len) → sp_retn e.2.2.2.1 i len st = some v → sp_rel D dA A M' H1 → va_S A s.heap H1 locs1 → M'.2.1 = c0 + cells1 → M'.2.2.1 = s0 + slots1 → W p l e0 R s m args below meth c H1 locs1 cells1 slots1 Q (F0 m pc ls st)) →
  (∀ (E : String) (pc : Nat) (ls : Array Slot) (rest : List Value) (H1 : Heap) (locs1 : List Loc) (cells1 slots1 : Nat) (q : Addr) (ce : Cell), r = .inr E → sp_rel D dA A M' H1 → va_S A s.heap H1 locs1 → M'.2.1 = c0 + cells1 → M'.2.2.1 = s0 + slots1 → H1[q]? = some ce → ce.vm = .none → s.vm.findClass E = some ce.cls → (∀ z ∈ c.exceptionTable.toList, covers z pc = false ∨ (z.catchType ≠ 0 ∧ ∃ nm : String, (Cond.classLink (sp_cls e.2.2.2.2.2.1) z.catchType nm).before args s = true ∧ va_Nc E nm s)) → vx_W p l e0 R s m args below meth c H1 locs1 cells1 slots1 Q (F0 m pc ls rest) q) →
  (∀ (q : String × Nat × Nat × Nat × Bool × String) (pc : Nat) (ls : Array Slot) (st : List Value) (H1 : Heap) (locs1 : List Loc) (cells1 slots1 : Nat) (M1 : sp_M), sp_fd sp_thT y pc = some q → r = .inr q.1 → M' = (none, M1.2.1 + 1, M1.2.2.1 + 6, M1.2.2.2) → sp_sum st ≤ 8 → sp_rel D dA A M1 H1 → va_S A s.heap H1 locs1 → M1.2.1 = c0 + cells1 → M1.2.2.1 = s0 + slots1 → ls.size = c.maxLocals → W p l e0 R s m args below meth c H1 locs1 cells1 slots1 Q (F0 m pc ls st)) →
  W p l e0 R s m args below meth c H locs cells slots Q (F0 m pc ls st)
section SPE
variable {D : va_G} {dA : Nat → ClassId} {A : Nat → Prop} {G : sp_G} {n : Nat}
theorem sp_T_get {y : Nat} {e : sp_E} (h : sp_T0[y]? = some e) : sp_T[y]? = some e ∧ e ∈ sp_T0 := by
  refine ⟨?_, List.mem_of_getElem? h⟩
  have hy : y < sp_T0.length := (List.getElem?_eq_some_iff.mp h).1
  unfold sp_T
  rw [List.getElem?_append_left hy]
  exact h
theorem sp_ml_of {y : Nat} {e : sp_E} (h : sp_T0[y]? = some e) : sp_ml y = e.2.2.1 := by unfold sp_ml; rw [h]
theorem sp_kd_of {y : Nat} {e : sp_E} (h : sp_T0[y]? = some e) : sp_kd y = e.2.2.2.2.2.2.2.2.2 := by unfold sp_kd; rw [h]
abbrev sp_rmE (e : sp_E) (M M1 : sp_M) : Room := { frames := e.2.2.2.2.2.2.2.1, cells := M1.2.1 - M.2.1, slots := M1.2.2.1 - M.2.2.1, locals := e.2.2.2.2.2.2.2.2.1 }
/-- a body of a method, entered with what its caller has -/
theorem sp_body (IH : sp_Snd D dA A G n) {y : Nat} {e : sp_E} {as : List Value} {M M1 : sp_M} {r1 : sp_R} (he : sp_T0[y]? = some e) (hex : sp_exec G n y 0 (sp_ent (sp_ml y) as) [] M = some (r1, M1)) (hlen : (sp_ea as).length ≤ e.2.2.1)
    {p : Program} {l : Launch} {e0 : Env} {s : State} {m : MethodId} {args : Array Value} {below : List Frame} {meth : Method} {c : Code} {s₁ : State} {cc : ByteArray} {nL : Nat} {ret : Option FieldType} (hl : l.stackTraces = false) (B : BodyLoose p l e.1 (headSpec (sp_ws e) (sp_rmE e M M1)) cc nL ret e0 s m args below meth c s₁) (hcc : cc = e.2.1) (hnL : nL = e.2.2.1) (hret : ret = e.2.2.2.1)
    (hml : c.maxLocals = nL) (htab : c.exceptionTable.toList = tableOf e.2.2.2.2.1) (hP : sp_Pc D dA A G as M args s) {Q : State → Prop}
    (HRet : ∀ (v : Option Value) (pc : Nat) (ls : Array Slot) (st : List Value) (H1 : Heap) (locs1 : List Loc) (i : Instr) (len : Nat), r1 = .inl v → decode e.2.1 pc = .ok (i, len) → sp_retn e.2.2.2.1 i len st = some v → sp_rel D dA A M1 H1 → va_S A s.heap H1 locs1 → W p l e0 (sp_rmE e M M1) s m args below meth c H1 locs1 (M1.2.1 - M.2.1) (M1.2.2.1 - M.2.2.1) Q (F0 m pc ls st))
    (HOut : ∀ (E : String) (pc : Nat) (ls : Array Slot) (rest : List Value) (H1 : Heap) (locs1 : List Loc) (q : Addr) (ce : Cell), r1 = .inr E → sp_rel D dA A M1 H1 → va_S A s.heap H1 locs1 → H1[q]? = some ce → ce.vm = .none → s.vm.findClass E = some ce.cls → (∀ z ∈ c.exceptionTable.toList, covers z pc = false ∨ (z.catchType ≠ 0 ∧ ∃ nm : String, (Cond.classLink (sp_cls e.2.2.2.2.2.1) z.catchType nm).before args s = true ∧ va_Nc E nm s)) → vx_W p l e0 (sp_rmE e M M1) s m args below meth c H1 locs1 (M1.2.1 - M.2.1) (M1.2.2.1 - M.2.2.1) Q (F0 m pc ls rest) q)
    (HThr : ∀ (q : String × Nat × Nat × Nat × Bool × String) (pc : Nat) (ls : Array Slot) (st : List Value) (H1 : Heap) (locs1 : List Loc) (cells1 slots1 : Nat) (M2 : sp_M), sp_fd sp_thT y pc = some q → r1 = .inr q.1 → M1 = (none, M2.2.1 + 1, M2.2.2.1 + 6, M2.2.2.2) → sp_sum st ≤ 8 → sp_rel D dA A M2 H1 → va_S A s.heap H1 locs1 → cells1 + 1 = M1.2.1 - M.2.1 → slots1 + 6 = M1.2.2.1 - M.2.2.1 → ls.size = c.maxLocals → W p l e0 (sp_rmE e M M1) s m args below meth c H1 locs1 cells1 slots1 Q (F0 m pc ls st)) :
    W p l e0 (sp_rmE e M M1) s m args below meth c s.heap [] 0 0 Q (entryFrame m args nL) := by
  obtain ⟨rfl, hC, hR, hA⟩ := hP
  obtain ⟨hT, hmem⟩ := sp_T_get he
  obtain ⟨⟨-, -⟩, -, hcl, hkind⟩ := sp_T_ok e hmem
  have hmono := sp_exec_mono G _ _ _ _ _ _ _ _ hex
  rw [sp_ml_of he] at hex
  subst hcc
  subst hnL
  rw [lg_entry_eq]
  have hts0 := atoms_spec (ws := sp_ws e) B.pre
  have hown : s.vm.findClass (sp_cls e.2.2.2.2.2.1) = some m.cls := by rw [← hcl]; exact findClass_of_methodNamed B.named
  have hX : sp_cx p s m as.toArray meth c e.2.1 D dA A G e.2.2.2.2.2.1 (decide (e.2.2.2.2.2.2.2.2.2 = 2)) :=
    ⟨B.exec, B.bytes, hown, fun w hw => hts0 w (List.mem_cons_of_mem _ hw), hC, fun hk => (name_of_methodNamed B.named B.method).1.trans (hkind (of_decide_eq_true hk)).1, hA⟩
  refine IH y 0 _ [] M r1 M1 hex p l e0 (sp_rmE e M M1) s m as.toArray below meth c s.heap [] 0 0 Q _ M.2.1 M.2.2.1 e hl hT hX hml (fun _ => htab) (Nat.le_refl _) (Nat.le_refl _) va_S.rf hR (sp_ent_lr hlen) rfl rfl (by show M1.2.1 ≤ M.2.1 + (M1.2.1 - M.2.1); omega) (by show M1.2.2.1 ≤ M.2.2.1 + (M1.2.2.1 - M.2.2.1); omega) ?_ ?_ ?_
  · intro v pc ls st H1 locs1 cells1 slots1 i len hr hd hrt hrel hS1 h1 h2
    have e1 : cells1 = M1.2.1 - M.2.1 := by omega
    have e2 : slots1 = M1.2.2.1 - M.2.2.1 := by omega
    subst e1
    subst e2
    exact HRet v pc ls st H1 locs1 i len hr hd hrt hrel hS1
  · intro E pc ls rest H1 locs1 cells1 slots1 q ce hr hrel hS1 h1 h2 k1 k2 k3 k4
    have e1 : cells1 = M1.2.1 - M.2.1 := by omega
    have e2 : slots1 = M1.2.2.1 - M.2.2.1 := by omega
    subst e1
    subst e2
    exact HOut E pc ls rest H1 locs1 q ce hr hrel hS1 k1 k2 k3 k4
  · intro q pc ls st H1 locs1 cells1 slots1 M2 hq hr hM hst hrel hS1 h1 h2 hls
    refine HThr q pc ls st H1 locs1 cells1 slots1 M2 hq hr hM hst hrel hS1 ?_ ?_ hls
    · rw [hM]; show cells1 + 1 = M2.2.1 + 1 - M.2.1; omega
    · rw [hM]; show slots1 + 6 = M2.2.2.1 + 6 - M.2.2.1; omega
/-- a method that is no constructor: it returns or throws -/
theorem sp_met (IH : sp_Snd D dA A G n) {y : Nat} {e : sp_E} {as : List Value} {M M1 : sp_M} {r1 : sp_R} (he : sp_T0[y]? = some e) (hex : sp_exec G n y 0 (sp_ent (sp_ml y) as) [] M = some (r1, M1)) (hlen : (sp_ea as).length ≤ e.2.2.1) {l : Launch} (hl : l.stackTraces = false) :
    vx_Met l e.1 (sp_ws e) (sp_rmE e M M1) (sp_Pc D dA A G as M) (sp_Qc D dA A r1 M1) (sp_XC D dA A r1 M1) (M1.2.1 - M.2.1) (M1.2.2.1 - M.2.2.1) A := by
  obtain ⟨hT, hmem⟩ := sp_T_get he
  obtain ⟨⟨hpl, -⟩, -, hcl, hkind⟩ := sp_T_ok e hmem
  have main : ∀ {p : Program} {e0 : Env} {s : State} {m : MethodId} {args : Array Value} {below : List Frame} {meth : Method} {c : Code} {s₁ : State} (B : BodyLoose p l e.1 (headSpec (sp_ws e) (sp_rmE e M M1)) e.2.1 e.2.2.1 e.2.2.2.1 e0 s m args below meth c s₁) (hml : c.maxLocals = e.2.2.1) (htab : c.exceptionTable.toList = tableOf e.2.2.2.2.1) (hP : sp_Pc D dA A G as M args s),
      W p l e0 (sp_rmE e M M1) s m args below meth c s.heap [] 0 0 (vx_MQ below (sp_Qc D dA A r1 M1) (sp_XC D dA A r1 M1) args s (M1.2.1 - M.2.1) (M1.2.2.1 - M.2.2.1) A) (entryFrame m args e.2.2.1) := by
    intro p e0 s m args below meth c s₁ B hml htab hP
    have hts0 := atoms_spec (ws := sp_ws e) B.pre
    have hown : s.vm.findClass (sp_cls e.2.2.2.2.2.1) = some m.cls := by rw [← hcl]; exact findClass_of_methodNamed B.named
    refine sp_body IH he hex hlen hl B rfl rfl rfl hml htab hP ?_ ?_ ?_
    · intro v pc ls st H1 locs1 i len hr hd hrt hrel hS1
      subst hr
      exact vx_ret (sp_ret_ok B.exec B.bytes B.returns B.notSynchronized hd hrt hrel hS1)
    · intro E pc ls rest H1 locs1 q ce hr hrel hS1 k1 k2 k3 k4
      exact vx_outP hown B.notSynchronized k4 k1 k2 k3 (fun t ht hv => ⟨(), trivial, ⟨hr, by rw [ht]; exact hrel⟩, hS1.F ht⟩) hS1.2.2 (Nat.le_refl _) (Nat.le_refl _)
    · intro q pc ls st H1 locs1 cells1 slots1 M2 hq hr hM hst hrel hS1 h1 h2 hls
      have hm := sp_fd_mem hq
      obtain ⟨e', he', d0, d3, dd, hh, hc5, hv7, hl100⟩ := sp_th_ins _ hm
      have hee : e' = e := Option.some.inj (he'.symm.trans hT)
      subst hee
      have hC := hP.2.1
      obtain ⟨sa, hsa⟩ := hC.2.2.2.2.2.1 _ hm
      have h5 : sp_cls e'.2.2.2.2.2.1 = RX5 := by rw [hc5]; rfl
      rw [h5] at hown
      have hat := sp_th_at _ (sp_th_k _ hm)
      have hk : (Cond.classLink RX5 q.2.1 q.1).before args s = true := hts0 _ (List.mem_cons_of_mem _ (sp_th_in _ (List.mem_map.mpr ⟨_, hm, rfl⟩)))
      have hini : (Cond.initialized q.1).before args s = true := hts0 _ (List.mem_cons_of_mem _ (sp_th_i2 _ (List.mem_map.mpr ⟨_, hm, rfl⟩)))
      have hats : ∀ w ∈ vx_atS RX5 q.2.2.2.1 q.1 sp_up3, w.before args s = true := fun w hw => by
        obtain ⟨w1, w2, -⟩ := hat w hw
        rcases w2 with w2 | w2
        · exact hts0 _ (List.mem_cons_of_mem _ (List.mem_filter.mpr ⟨w1, w2⟩))
        · exact va_tabs (by cases w <;> first | rfl | (exfalso; simp [sp_nwOK] at w2)) rfl (hC.2.1 w w1 w2)
      have hout : ∀ z, ∀ x ∈ c.exceptionTable.toList, covers x z = false := fun z x hx => by rw [htab, hh] at hx; cases hx
      have hrel' : ∀ t : State, H1.size ≤ t.heap.size → (∀ q : Nat, q < H1.size → t.heap[q]? = H1[q]?) → sp_rel D dA A M1 t.heap := fun t _ hk => by
        rw [hM]
        exact ⟨fun z hz => (nomatch hz), fun a e2 ha => ⟨(hrel.2 a e2 ha).1, (hrel.2 a e2 ha).2.kept (hk a (hrel.2 a e2 ha).2.lt)⟩⟩
      have hxx : ∀ t : State, s.vm.Alike t.vm → H1.size ≤ t.heap.size → (∀ q : Nat, q < H1.size → t.heap[q]? = H1[q]?) → sp_XC D dA A r1 M1 q.1 s t := fun t _ hz hk =>
        ⟨(), trivial, ⟨hr, hrel' t hz hk⟩, ⟨Nat.le_trans hS1.1 hz, fun a h3 h4 => (hk a (Nat.lt_of_lt_of_le h3 hS1.1)).trans (hS1.2.1 a h3 h4)⟩⟩
      have hgood : ∀ w ∈ Cond.classLink RX5 q.2.1 q.1 :: Cond.initialized q.1 :: vx_atS RX5 q.2.2.2.1 q.1 sp_up3, vx_ot w = true := fun w hw => by
        rcases List.mem_cons.mp hw with rfl | hw
        · rfl
        · rcases List.mem_cons.mp hw with rfl | hw
          · rfl
          · exact (hat w hw).2.2
      have hst' : (st.map fun v => v.category).sum ≤ 8 := hst
      have hfr : sp_up3.length + 3 < (sp_rmE e' M M1).frames := by show 2 + 3 < e'.2.2.2.2.2.2.2.1; omega
      have hlo : (st.map fun v => v.category).sum + (13 * (sp_up3.length + 1) + 43) ≤ (sp_rmE e' M M1).locals := by show _ + (13 * (2 + 1) + 43) ≤ e'.2.2.2.2.2.2.2.2.1; omega
      by_cases hwide : q.2.2.2.2.1 = true
      · rw [if_pos hwide] at dd
        exact vx_throwSW (text := q.2.2.2.2.2) (names := sp_up3) B.exec B.bytes hl hown (sp_th_fit _ hm) (by decide +kernel) hk hini hsa hats hgood hC.2.2.2.2.2.2.1 hC.2.2.2.2.2.2.2.1 hS1 hls d0 d3 dd.1 dd.2.1 dd.2.2 (hout _) hfr hlo (by show cells1 + 1 ≤ M1.2.1 - M.2.1; omega) (by show slots1 + 6 ≤ M1.2.2.1 - M.2.2.1; omega) B.notSynchronized hxx hS1.2.2 (by omega) (by omega)
      · rw [if_neg hwide] at dd
        exact vx_throwS (text := q.2.2.2.2.2) (names := sp_up3) B.exec B.bytes hl hown (sp_th_fit _ hm) (by decide +kernel) hk hini hsa hats hgood hC.2.2.2.2.2.2.1 hC.2.2.2.2.2.2.2.1 hS1 hls d0 d3 dd.1 dd.2.1 dd.2.2 (hout _) hfr hlo (by show cells1 + 1 ≤ M1.2.1 - M.2.1; omega) (by show slots1 + 6 ≤ M1.2.2.1 - M.2.2.1; omega) B.notSynchronized hxx hS1.2.2 (by omega) (by omega)
  by_cases hh : e.2.2.2.2.1 = []
  · refine vx_ofW (cc := e.2.1) (maxL := e.2.2.1) (ret := e.2.2.2.1) (ws' := sp_AW) hpl (by unfold sp_ws sp_code; rw [if_pos hh]) ?_
    intro p e0 s m args below meth c s₁ B hml hno hP
    refine main B hml ?_ hP
    rw [hh]
    show c.exceptionTable.toList = []
    exact List.eq_nil_iff_forall_not_mem.mpr fun x hx => hno x hx
  · refine vx_ofWH (cc := e.2.1) (maxL := e.2.2.1) (ret := e.2.2.2.1) (hh := e.2.2.2.2.1) (ws' := sp_AW) hpl (by unfold sp_ws sp_code; rw [if_neg hh]) ?_
    intro p e0 s m args below meth c s₁ B hml hP
    refine main B hml (vx_table (x := e.1) B (bytes := e.2.1) (maxL' := e.2.2.1) (ret' := e.2.2.2.1) (hh := e.2.2.2.2.1) ?_) hP
    have := atoms_spec (ws := sp_ws e) B.pre (sp_code e) List.mem_cons_self
    unfold sp_code at this
    rw [if_neg hh] at this
    exact this
/-- a constructor: it returns -/
theorem sp_metI (IH : sp_Snd D dA A G n) {y : Nat} {e : sp_E} {as : List Value} {M M1 : sp_M} {v1 : Option Value} (he : sp_T0[y]? = some e) (hex : sp_exec G n y 0 (sp_ent (sp_ml y) as) [] M = some (.inl v1, M1)) (hlen : (sp_ea as).length ≤ e.2.2.1) (hh : e.2.2.2.2.1 = []) {l : Launch} (hl : l.stackTraces = false) :
    Met l e.1 (sp_ws e) (sp_rmE e M M1) (sp_Pc D dA A G as M) (sp_Qc D dA A (.inl v1) M1) (M1.2.1 - M.2.1) (M1.2.2.1 - M.2.2.1) A := by
  obtain ⟨hT, hmem⟩ := sp_T_get he
  obtain ⟨⟨hpl, -⟩, -, hcl, hkind⟩ := sp_T_ok e hmem
  refine Met.ofW (cc := e.2.1) (maxL := e.2.2.1) (ret := e.2.2.2.1) (ws' := sp_AW) hpl (by unfold sp_ws sp_code; rw [if_pos hh]) ?_
  intro p e0 s m args below meth c s₁ B hml hP
  have htab : c.exceptionTable.toList = tableOf e.2.2.2.2.1 := by
    obtain ⟨meth9, c9, h1, h2, -, -, -, -, h7, -⟩ := Cond.code_spec B.named (atoms_spec (ws := sp_ws e) B.pre (Cond.code e.1 e.2.1 e.2.2.1 e.2.2.2.1) (by unfold sp_ws sp_code; rw [if_pos hh]; exact List.mem_cons_self))
    cases Option.some.inj (h1.symm.trans B.method)
    cases Option.some.inj (h2.symm.trans (Stand.of_body B).code)
    rw [Array.isEmpty_iff.mp h7, hh]
    rfl
  refine sp_body IH he hex hlen hl B rfl rfl rfl hml htab hP ?_ ?_ ?_
  · intro v pc ls st H1 locs1 i len hr hd hrt hrel hS1
    cases hr
    exact sp_ret_ok B.exec B.bytes B.returns B.notSynchronized hd hrt hrel hS1
  · intro E pc ls rest H1 locs1 q ce hr
    cases hr
  · intro q pc ls st H1 locs1 cells1 slots1 M2 hq hr
    cases hr
end SPE
