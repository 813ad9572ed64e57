/-! ===== the abstract machine is the machine's: returns, constants, calls, throws ===== -/
theorem sp_goodIn {ws : List Cond} (h : ∀ w ∈ ws, w ∈ sp_AW) : GoodIn sp_AW ws := fun w hw => ⟨h w hw, good_of_word (List.mem_filter.mp (h w hw)).2⟩
abbrev sp_po (D : va_G) (dA : Nat → ClassId) (A : Nat → Prop) (M1 : sp_M) : Unit → State → Prop := fun _ t => sp_rel D dA A M1 t.heap
def sp_Qc (D : va_G) (dA : Nat → ClassId) (A : Nat → Prop) (r : sp_R) (M1 : sp_M) : Array Value → State → Outcome → State → Prop := match r with
  | .inl none => va_Qv (fun _ : Unit => True) (sp_po D dA A M1) A
  | .inl (some (.int x)) => va_Qi (fun z (_ : Unit) => z = x) (sp_po D dA A M1) A
  | .inl (some (.long x)) => va_Ql (fun z (_ : Unit) => z = x) (sp_po D dA A M1) A
  | .inl (some (.float x)) => va_Qf (fun z (_ : Unit) => z = x) (sp_po D dA A M1) A
  | .inl (some (.double x)) => va_Qd (fun z (_ : Unit) => z = x) (sp_po D dA A M1) A
  | _ => va_Qv (fun _ : Unit => False) (sp_po D dA A M1) A
def sp_XC (D : va_G) (dA : Nat → ClassId) (A : Nat → Prop) (r : sp_R) (M1 : sp_M) : String → State → State → Prop := vx_X (fun _ : Unit => True) (fun E _ t => r = .inr E ∧ sp_rel D dA A M1 t.heap) A
def sp_Pc (D : va_G) (dA : Nat → ClassId) (A : Nat → Prop) (G : sp_G) (as : List Value) (M : sp_M) : Array Value → State → Prop := fun a U => a = as.toArray ∧ sp_ctx D dA A G U U.heap ∧ sp_rel D dA A M U.heap ∧ ∀ q, U.heap.size ≤ q → A q
theorem sp_Pc_blind {D : va_G} {dA : Nat → ClassId} {A : Nat → Prop} {G : sp_G} {as : List Value} {M : sp_M} : FrameBlind (sp_Pc D dA A G as M) := by
  intro a U g mk h
  have h2 : sp_ctx D dA A G (U.calling g mk a) U.heap := sp_ctx.alike (U := U) (V := U.calling g mk a) rfl h.2.1
  exact ⟨h.1, h2, h.2.2.1, h.2.2.2⟩
section SPD
variable {p : Program} {l : Launch} {e0 : Env} {R : Room} {s : State} {m : MethodId} {args : Array Value} {below : List Frame} {meth : Method} {c : Code} {H : Heap} {locs : List Loc} {cells slots : Nat} {Q : State → Prop}
variable {cc : ByteArray} {pc len : Nat} {ls : Array Slot} {st st' : List Value} {D : va_G} {dA : Nat → ClassId} {A : Nat → Prop} {G : sp_G} {cn : Nat} {ini : Bool} {M M' M1 : sp_M} {i : Instr}
theorem sp_cst_sound (X : sp_cx p s m args meth c cc D dA A G cn ini) (hdg : decode cc pc = .ok (i, len)) (h : sp_cst cn i len st = some st')
    (k : W p l e0 R s m args below meth c H locs cells slots Q (F0 m (pc + len) ls st')) : W p l e0 R s m args below meth c H locs cells slots Q (F0 m pc ls st) := by
  obtain ⟨hx, hb, hown, hts, -, -, -⟩ := X
  unfold sp_cst at h
  split at h
  · split at h
    · rename_i v h1
      cases h
      exact lv_ldc2 hx hb hown (hts _ (sp_cl_in _ (List.mem_map.mpr ⟨_, sp_fd_mem h1, rfl⟩))) hdg k
    · obtain ⟨v, h1, h2⟩ := Option.map_eq_some_iff.mp h
      cases h2
      exact lv_ldc2d hx hb hown (hts _ (sp_cd_in _ (List.mem_map.mpr ⟨_, sp_fd_mem h1, rfl⟩))) hdg k
  · obtain ⟨v, h1, h2⟩ := Option.map_eq_some_iff.mp h
    cases h2
    exact lv_ldc hx hb hown (hts _ (sp_ci_in _ (List.mem_map.mpr ⟨_, sp_fd_mem h1, rfl⟩))) hdg k
  · cases h
theorem sp_ret_ok (hx : p.tables.exec = Jvm.exec) (hb : c.code = cc) {ret : Option FieldType} (hr : meth.sig.returnType = ret) (hlocks : meth.locks = false) (hdg : decode cc pc = .ok (i, len)) {v : Option Value} (h : sp_retn ret i len st = some v) (hR : sp_rel D dA A M1 H) (hS : va_S A s.heap H locs) :
    W p l e0 R s m args below meth c H locs cells slots (MQ below (sp_Qc D dA A (.inl v) M1) args s cells slots A) (F0 m pc ls st) := by
  have hrel : ∀ t : State, t.heap = H → sp_rel D dA A M1 t.heap := fun t ht => by rw [ht]; exact hR
  unfold sp_retn at h
  split at h
  · rename_i x
    split at h
    · rename_i hc
      cases h
      rcases hc with hc | ⟨hc, hx01⟩
      · exact W.iret (v := x) hx hb (hr.trans hc) (fun t ht hW => ⟨⟨x, (), rfl, rfl, hrel t ht⟩, hS.F ht⟩) hS.2.2 hdg
      · exact W.zret (v := x) (ty := .boolean) hx hb (hr.trans hc) (by rcases hx01 with rfl | rfl <;> decide) (fun t ht hW => ⟨⟨x, (), rfl, rfl, hrel t ht⟩, hS.F ht⟩) hS.2.2 hdg
    · cases h
  · rename_i x
    split at h
    · rename_i hc
      cases h
      exact W.lret (v := x) hx hb (hr.trans hc) (fun t ht hW => ⟨⟨x, (), rfl, rfl, hrel t ht⟩, hS.F ht⟩) hS.2.2 hdg
    · cases h
  · rename_i x
    split at h
    · rename_i hc
      cases h
      exact W.fret (v := x) hx hb (hr.trans hc) (fun t ht hW => ⟨⟨x, (), rfl, rfl, hrel t ht⟩, hS.F ht⟩) hS.2.2 hdg
    · cases h
  · rename_i x
    split at h
    · rename_i hc
      cases h
      exact W.dret (v := x) hx hb (hr.trans hc) (fun t ht hW => ⟨⟨x, (), rfl, rfl, hrel t ht⟩, hS.F ht⟩) hS.2.2 hdg
    · cases h
  · split at h
    · rename_i hc
      cases h
      exact W.vret hx hb (hr.trans hc) (fun t ht hW => ⟨⟨(), rfl, trivial, hrel t ht⟩, hS.F ht⟩) hS.2.2 hdg
    · cases h
  · cases h
/-- behind a call that returns or throws -/
theorem sp_call_end {mc ms : Nat} {r1 : sp_R} {a : Array Value} {st0 rest : List Value} (hr : vx_Run p l e0 R s m args below meth c H locs cells slots mc ms (F0 m pc ls st0) rest (sp_Qc D dA A r1 M1 a) (sp_XC D dA A r1 M1) A) (hS : va_S A s.heap H locs)
    (kx : ∀ (E : String) (ce : Cell) (q9 : Addr) (H1 : Heap) (locs1 : List Loc), r1 = .inr E → sp_rel D dA A M1 H1 → va_S A s.heap H1 locs1 → H1[q9]? = some ce → ce.vm = .none → s.vm.findClass E = some ce.cls → vx_W p l e0 R s m args below meth c H1 locs1 (cells + mc) (slots + ms) Q (F0 m pc ls rest) q9)
    (kk : ∀ (v : Option Value) (H1 : Heap) (locs1 : List Loc), r1 = .inl v → sp_rel D dA A M1 H1 → va_S A s.heap H1 locs1 → W p l e0 R s m args below meth c H1 locs1 (cells + mc) (slots + ms) Q (F0 m (pc + 3) ls (v.toList ++ rest))) : W p l e0 R s m args below meth c H locs cells slots Q (F0 m pc ls st0) := by
  have kx' : ∀ (E : String) (ce : Cell) (q9 : Addr) (u : Unit) (t : State) (H1 : Heap) (locs1 : List Loc), t.heap = H1 → s.vm.Alike t.vm → True → (r1 = .inr E ∧ sp_rel D dA A M1 t.heap) → H.size ≤ H1.size → (∀ q : Nat, q < H.size → ¬ A q → H1[q]? = H[q]?) → va_S A s.heap H1 locs1 → H1[q9]? = some ce → ce.vm = .none → s.vm.findClass E = some ce.cls → vx_W p l e0 R s m args below meth c H1 locs1 (cells + mc) (slots + ms) Q (F0 m pc ls rest) q9 :=
    fun E ce q9 u t H1 locs1 ht hv _ hb _ _ hS1 h1 h2 h3 => kx E ce q9 H1 locs1 hb.1 (by rw [← ht]; exact hb.2) hS1 h1 h2 h3
  match r1, hr, kk, kx' with
  | .inl none, hr, kk, kx' => exact vx_callv (a := a) hr hS (fun q _ h => h) (fun q h => h) (fun q _ h => h) kx' (fun u t H1 locs1 ht hv hp hB hz hk hS1 => kk none H1 locs1 rfl (by rw [← ht]; exact hB) hS1)
  | .inl (some (.int x)), hr, kk, kx' => exact vx_calli (a := a) hr hS (fun q _ h => h) (fun q h => h) (fun q _ h => h) kx' (fun z u t H1 locs1 ht hv hp hB hz hk hS1 => by have hp : z = x := hp; subst hp; exact kk (some (.int z)) H1 locs1 rfl (by rw [← ht]; exact hB) hS1)
  | .inl (some (.long x)), hr, kk, kx' => exact vx_calll (a := a) hr hS (fun q _ h => h) (fun q h => h) (fun q _ h => h) kx' (fun z u t H1 locs1 ht hv hp hB hz hk hS1 => by have hp : z = x := hp; subst hp; exact kk (some (.long z)) H1 locs1 rfl (by rw [← ht]; exact hB) hS1)
  | .inl (some (.float x)), hr, kk, kx' => exact vx_callf (a := a) hr hS (fun q _ h => h) (fun q h => h) (fun q _ h => h) kx' (fun z u t H1 locs1 ht hv hp hB hz hk hS1 => by have hp : z = x := hp; subst hp; exact kk (some (.float z)) H1 locs1 rfl (by rw [← ht]; exact hB) hS1)
  | .inl (some (.double x)), hr, kk, kx' => exact vx_calld (a := a) hr hS (fun q _ h => h) (fun q h => h) (fun q _ h => h) kx' (fun z u t H1 locs1 ht hv hp hB hz hk hS1 => by have hp : z = x := hp; subst hp; exact kk (some (.double z)) H1 locs1 rfl (by rw [← ht]; exact hB) hS1)
  | .inl (some .null), hr, kk, kx' => exact vx_callv (a := a) hr hS (fun q _ h => h) (fun q h => h) (fun q _ h => h) kx' (fun u t H1 locs1 ht hv hp hB hz hk hS1 => absurd hp (fun z => z))
  | .inl (some (.ref _)), hr, kk, kx' => exact vx_callv (a := a) hr hS (fun q _ h => h) (fun q h => h) (fun q _ h => h) kx' (fun u t H1 locs1 ht hv hp hB hz hk hS1 => absurd hp (fun z => z))
  | .inl (some (.retAddr _)), hr, kk, kx' => exact vx_callv (a := a) hr hS (fun q _ h => h) (fun q h => h) (fun q _ h => h) kx' (fun u t H1 locs1 ht hv hp hB hz hk hS1 => absurd hp (fun z => z))
  | .inr _, hr, kk, kx' => exact vx_callv (a := a) hr hS (fun q _ h => h) (fun q h => h) (fun q _ h => h) kx' (fun u t H1 locs1 ht hv hp hB hz hk hS1 => absurd hp (fun z => z))
/-- behind a call of a constructor -/
theorem sp_call_endI {mc ms : Nat} {v : Option Value} {a : Array Value} {st0 rest : List Value} (hr : va_Run p l e0 R s m args below meth c H locs cells slots mc ms (F0 m pc ls st0) rest (sp_Qc D dA A (.inl v) M1 a) A) (hS : va_S A s.heap H locs)
    (kk : ∀ (H1 : Heap) (locs1 : List Loc), sp_rel D dA A M1 H1 → va_S A s.heap H1 locs1 → W p l e0 R s m args below meth c H1 locs1 (cells + mc) (slots + ms) Q (F0 m (pc + 3) ls (v.toList ++ rest))) : W p l e0 R s m args below meth c H locs cells slots Q (F0 m pc ls st0) := by
  match v, hr, kk with
  | none, hr, kk => exact va_callv (a := a) hr hS (fun q _ h => h) (fun q h => h) (fun u t H1 locs1 ht hv hp hB hz hk hS1 => kk H1 locs1 (by rw [← ht]; exact hB) hS1)
  | some (.int x), hr, kk => exact va_calli (a := a) hr hS (fun q _ h => h) (fun q h => h) (fun z u t H1 locs1 ht hv hp hB hz hk hS1 => by have hp : z = x := hp; subst hp; exact kk H1 locs1 (by rw [← ht]; exact hB) hS1)
  | some (.long x), hr, kk => exact va_calll (a := a) hr hS (fun q _ h => h) (fun q h => h) (fun z u t H1 locs1 ht hv hp hB hz hk hS1 => by have hp : z = x := hp; subst hp; exact kk H1 locs1 (by rw [← ht]; exact hB) hS1)
  | some (.float x), hr, kk => exact va_callf (a := a) hr hS (fun q _ h => h) (fun q h => h) (fun z u t H1 locs1 ht hv hp hB hz hk hS1 => by have hp : z = x := hp; subst hp; exact kk H1 locs1 (by rw [← ht]; exact hB) hS1)
  | some (.double x), hr, kk => exact va_calld (a := a) hr hS (fun q _ h => h) (fun q h => h) (fun z u t H1 locs1 ht hv hp hB hz hk hS1 => by have hp : z = x := hp; subst hp; exact kk H1 locs1 (by rw [← ht]; exact hB) hS1)
  | some .null, hr, kk => exact va_callv (a := a) hr hS (fun q _ h => h) (fun q h => h) (fun u t H1 locs1 ht hv hp hB hz hk hS1 => absurd hp (fun z => z))
  | some (.ref _), hr, kk => exact va_callv (a := a) hr hS (fun q _ h => h) (fun q h => h) (fun u t H1 locs1 ht hv hp hB hz hk hS1 => absurd hp (fun z => z))
  | some (.retAddr _), hr, kk => exact va_callv (a := a) hr hS (fun q _ h => h) (fun q h => h) (fun u t H1 locs1 ht hv hp hB hz hk hS1 => absurd hp (fun z => z))
end SPD
