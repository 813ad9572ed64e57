/-! ===== the abstract machine's rows over cells are the machine's ===== -/
def sp_cx (p : Program) (s : State) (m : MethodId) (args : Array Value) (meth : Method) (c : Code) (cc : ByteArray) (D : va_G) (dA : Nat → ClassId) (A : Nat → Prop) (G : sp_G) (cn : Nat) (ini : Bool) : Prop :=
  p.tables.exec = Jvm.exec ∧ c.code = cc ∧ s.vm.findClass (sp_cls cn) = some m.cls ∧ (∀ w ∈ sp_AW, w.before args s = true) ∧ sp_ctx D dA A G s s.heap ∧ (ini = true → meth.name = "<init>") ∧ (∀ q, s.heap.size ≤ q → A q)
def sp_rm (R : Room) (cells slots : Nat) (M M' : sp_M) : Prop := ∀ dc ds, M'.2.1 = M.2.1 + dc → M'.2.2.1 = M.2.2.1 + ds → cells + dc ≤ R.cells ∧ slots + ds ≤ R.slots
theorem sp_fit_ty {v : Value} {ty : FieldType} {d : String} (hd : parseFieldDescriptor d = some ty) (h : sp_fit ty v = true) : parseFieldDescriptor d = some ty ∧ narrow ty v = v ∧ fits ty v = true := ⟨hd, sp_fit_ok h⟩
section SPC
variable {p : Program} {l : Launch} {e : Env} {R : Room} {s : State} {m : MethodId} {args : Array Value} {below : List Frame} {meth : Method} {c : Code} {H : Heap} {locs : List Loc} {cells slots : Nat} {Q : State → Prop}
variable {cc : ByteArray} {pc len : Nat} {ls : Array Slot} {st st' : List Value} {D : va_G} {dA : Nat → ClassId} {A : Nat → Prop} {G : sp_G} {cn : Nat} {ini : Bool} {M M' : sp_M}
/-- what may come next -/
abbrev sp_kk (p : Program) (l : Launch) (e : Env) (R : Room) (s : State) (m : MethodId) (args : Array Value) (below : List Frame) (meth : Method) (c : Code) (cells slots : Nat) (Q : State → Prop) (D : va_G) (dA : Nat → ClassId) (A : Nat → Prop) (M M' : sp_M) (g : JFrame) : Prop :=
  ∀ (H1 : Heap) (locs1 : List Loc) (dc ds : Nat), sp_rel D dA A M' H1 → va_S A s.heap H1 locs1 → M'.2.1 = M.2.1 + dc → M'.2.2.1 = M.2.2.1 + ds → W p l e R s m args below meth c H1 locs1 (cells + dc) (slots + ds) Q g
theorem sp_getf_sound (X : sp_cx p s m args meth c cc D dA A G cn ini) (hS : va_S A s.heap H locs) (hR : sp_rel D dA A M H) {idx a : Nat} (hdg : decode cc pc = .ok (.getfield idx, 3)) (h : sp_getf cn idx a st M = some (st', M'))
    (kk : sp_kk p l e R s m args below meth c cells slots Q D dA A M M' (F0 m (pc + 3) ls st')) : W p l e R s m args below meth c H locs cells slots Q (F0 m pc ls (.ref a :: st)) := by
  obtain ⟨hx, hb, hown, hts, hC, -, -⟩ := X
  unfold sp_getf at h
  split at h
  · rename_i ci k cj fs h1 h2
    split at h
    · rename_i hcj
      subst hcj
      obtain ⟨v, hv, hst⟩ := Option.map_eq_some_iff.mp h
      cases hst
      have hat := (hR.2 a _ h2).2
      have go : ∀ (hk : W p l e R s m args below meth c H locs cells slots Q (F0 m (pc + 3) ls (v :: st))), W p l e R s m args below meth c H locs cells slots Q (F0 m pc ls (.ref a :: st)) := by
        intro hk
        rcases Option.or_eq_some_iff.mp h1 with h1 | ⟨-, h1⟩
        · have hm := sp_fd_mem h1
          have hci := sp_fl_ok _ hm
          obtain ⟨c1, c2, c3, c4⟩ := sp_cl hci.1
          exact va_get hx hb hts c2 hown hC.1 (sp_at1 hat) 0 rfl c1 k hci.2 (hts _ (sp_fl_in _ (List.mem_map.mpr ⟨_, hm, rfl⟩))) (fun _ h => h) hv hdg hk
        · have hm := sp_fd_mem h1
          have hci := sp_fn_ok _ hm
          obtain ⟨c1, c2, c3, c4⟩ := sp_cl hci.1
          exact va_getN hx hb hts c2 hown hC.1 (sp_at1 hat) 0 rfl c1 k hci.2 (va_Nw.use rfl (hC.2.1 _ (sp_fn_in _ (List.mem_map.mpr ⟨_, hm, rfl⟩)) rfl)) (fun _ h => h) hv hdg hk
      exact go (kk H locs 0 0 hR hS rfl rfl)
    · cases h
  · cases h
theorem sp_putf_sound (X : sp_cx p s m args meth c cc D dA A G cn ini) (hS : va_S A s.heap H locs) (hR : sp_rel D dA A M H) {idx a : Nat} {v : Value} (hdg : decode cc pc = .ok (.putfield idx, 3)) (h : sp_putf cn ini idx v a st M = some (st', M'))
    (kk : sp_kk p l e R s m args below meth c cells slots Q D dA A M M' (F0 m (pc + 3) ls st')) : W p l e R s m args below meth c H locs cells slots Q (F0 m pc ls (v :: .ref a :: st)) := by
  obtain ⟨hx, hb, hown, hts, hC, hini, -⟩ := X
  unfold sp_putf at h
  split at h
  · rename_i ci k cj fs h1 h2
    split at h
    · rename_i hcj
      obtain ⟨hcj, hkl, hfit, hfin⟩ := hcj
      subst hcj
      cases h
      obtain ⟨hA, hat⟩ := hR.2 a _ h2
      have hm := sp_fd_mem h1
      have hci := sp_fl_ok _ hm
      obtain ⟨c1, c2, c3, c4⟩ := sp_cl hci.1
      have hlink := hts _ (sp_fl_in _ (List.mem_map.mpr ⟨_, hm, rfl⟩))
      obtain ⟨hn, hf⟩ := sp_fit_ok hfit
      cases hfi : (sp_Tf cj k).2.2.2 with
      | false =>
        exact sx_put hx hb hts c2 _ c3 c4 hown hC.1 hat c1 k hci.2 hlink (fun _ h => h) hfi (c3 k hci.2) hn hf hkl hA hS hdg fun H1 locs1 e1 e2 e3 hS1 => kk H1 locs1 0 0 (sp_rel_up hR hA e1 e2 e3) hS1 rfl rfl
      | true =>
        obtain ⟨hi, hcc⟩ := hfin hfi
        exact sx_putF hx hb hts c2 _ c3 c4 hown hC.1 hat c1 k hci.2 hlink (fun _ h => h) hfi (hini hi) (by rw [sp_Tf_own cj hci.1 k hci.2, hcc]) (c3 k hci.2) hn hf hkl hA hS hdg fun H1 locs1 e1 e2 e3 hS1 => kk H1 locs1 0 0 (sp_rel_up hR hA e1 e2 e3) hS1 rfl rfl
    · cases h
  · cases h
theorem sp_gets_sound (X : sp_cx p s m args meth c cc D dA A G cn ini) (hS : va_S A s.heap H locs) (hR : sp_rel D dA A M H) {idx : Nat} (hdg : decode cc pc = .ok (.getstatic idx, 3)) (h : (sp_fd sp_stT cn idx).map (fun k => (Value.ref (if k = 0 then G.2.2.2.1 else G.2.2.2.2) :: st, M)) = some (st', M'))
    (kk : sp_kk p l e R s m args below meth c cells slots Q D dA A M M' (F0 m (pc + 3) ls st')) : W p l e R s m args below meth c H locs cells slots Q (F0 m pc ls st) := by
  obtain ⟨hx, hb, hown, hts, hC, -, -⟩ := X
  obtain ⟨k, h1, h2⟩ := Option.map_eq_some_iff.mp h
  cases h2
  have hlink := hts _ (sp_st_in _ (List.mem_map.mpr ⟨_, sp_fd_mem h1, rfl⟩))
  by_cases hk : k = 0
  · subst hk
    exact va_gets hx hb hC.2.2.2.2.2.2.2.2.1 hS hown hlink (fun _ h => h) hdg (kk H locs 0 0 hR hS rfl rfl)
  · rw [if_neg hk] at kk
    unfold sp_stn at hlink
    simp only [hk, if_false] at hlink
    exact va_gets hx hb hC.2.2.2.2.2.2.2.2.2.1 hS hown hlink (fun _ h => h) hdg (kk H locs 0 0 hR hS rfl rfl)
theorem sp_ild_sound (X : sp_cx p s m args meth c cc D dA A G cn ini) (hS : va_S A s.heap H locs) (hR : sp_rel D dA A M H) {k : Nat} {j : Int32} {a : Nat} (hk : (k = 0 ∧ decode cc pc = .ok (.iaload, 1)) ∨ (k = 1 ∧ decode cc pc = .ok (.baload, 1)) ∨ (k = 2 ∧ decode cc pc = .ok (.caload, 1))) (h : sp_ild G k j a st M = some (st', M'))
    (kk : sp_kk p l e R s m args below meth c cells slots Q D dA A M M' (F0 m (pc + 1) ls st')) : W p l e R s m args below meth c H locs cells slots Q (F0 m pc ls (.int j :: .ref a :: st)) := by
  obtain ⟨hx, hb, hown, hts, hC, -, -⟩ := X
  unfold sp_ild at h
  split at h
  · rename_i q n f h2
    split at h
    · rename_i hq
      obtain ⟨hq, hin⟩ := hq
      subst hq
      cases h
      have hat := (hR.2 a _ h2).2
      rcases hk with ⟨rfl, hdg⟩ | ⟨rfl, hdg⟩ | ⟨rfl, hdg⟩
      · exact va_iald hx hb hC.1 (sp_at1 hat) 0 0 rfl rfl (sp_in_of hin) hdg (kk H locs 0 0 hR hS rfl rfl)
      · exact va_zald hx hb hC.1 (sp_at1 hat) 0 1 rfl rfl (sp_in_of hin) hdg (kk H locs 0 0 hR hS rfl rfl)
      · exact va_cald hx hb hC.1 (sp_at1 hat) 0 2 rfl rfl (sp_in_of hin) hdg (kk H locs 0 0 hR hS rfl rfl)
    · cases h
  · cases h
  · split at h
    · rename_i hk0
      subst hk0
      have hdg : decode cc pc = .ok (.iaload, 1) := by
        rcases hk with ⟨-, hdg⟩ | ⟨h0, -⟩ | ⟨h0, -⟩
        · exact hdg
        · cases h0
        · cases h0
      split at h
      · rename_i ha
        subst ha
        split at h
        · rename_i hin
          cases h
          exact va_sld hx hb hC.2.2.2.2.2.2.2.2.2.2.2.2.1 hC.2.2.2.2.2.2.2.2.2.2.2.2.2.1 hC.2.2.2.2.2.2.2.2.2.2.2.2.2.2 hS (sp_in_of hin) hdg (kk H locs 0 0 hR hS rfl rfl)
        · cases h
      · split at h
        · rename_i ha
          subst ha
          split at h
          · rename_i hin
            cases h
            exact va_ti hx hb hC.2.2.2.2.2.2.2.2.2.2.1 hS (sp_in_of hin) rfl hdg (kk H locs 0 0 hR hS rfl rfl)
          · cases h
        · split at h
          · rename_i ha
            subst ha
            split at h
            · rename_i hin
              cases h
              exact va_ti hx hb hC.2.2.2.2.2.2.2.2.2.2.2.1 hS (sp_in_of hin) rfl hdg (kk H locs 0 0 hR hS rfl rfl)
            · cases h
          · cases h
    · cases h
theorem sp_ist_sound0 (X : sp_cx p s m args meth c cc D dA A G cn ini) (hS : va_S A s.heap H locs) (hR : sp_rel D dA A M H) {x j : Int32} {a : Nat} (hdg : decode cc pc = .ok (.iastore, 1)) (h : sp_ist 0 (fun x => x) x j a st M = some (st', M'))
    (kk : sp_kk p l e R s m args below meth c cells slots Q D dA A M M' (F0 m (pc + 1) ls st')) : W p l e R s m args below meth c H locs cells slots Q (F0 m pc ls (.int x :: .int j :: .ref a :: st)) := by
  obtain ⟨hx, hb, hown, hts, hC, -, -⟩ := X
  unfold sp_ist at h
  split at h
  · rename_i q n f h2
    split at h
    · rename_i hq
      obtain ⟨hq, hin⟩ := hq
      subst hq
      cases h
      obtain ⟨hA, hat⟩ := hR.2 a _ h2
      exact sx_iast hx hb hC.1 0 hat hA hS rfl (sp_in_of hin) hdg fun H1 locs1 e1 e2 e3 hS1 => kk H1 locs1 0 0 (sp_rel_up hR hA e1 e2 e3) hS1 rfl rfl
    · cases h
  · cases h
theorem sp_ist_sound1 (X : sp_cx p s m args meth c cc D dA A G cn ini) (hS : va_S A s.heap H locs) (hR : sp_rel D dA A M H) {x j : Int32} {a : Nat} (hdg : decode cc pc = .ok (.bastore, 1)) (h : sp_ist 1 (vp_nar .boolean) x j a st M = some (st', M'))
    (kk : sp_kk p l e R s m args below meth c cells slots Q D dA A M M' (F0 m (pc + 1) ls st')) : W p l e R s m args below meth c H locs cells slots Q (F0 m pc ls (.int x :: .int j :: .ref a :: st)) := by
  obtain ⟨hx, hb, hown, hts, hC, -, -⟩ := X
  unfold sp_ist at h
  split at h
  · rename_i q n f h2
    split at h
    · rename_i hq
      obtain ⟨hq, hin⟩ := hq
      subst hq
      cases h
      obtain ⟨hA, hat⟩ := hR.2 a _ h2
      exact sx_zast hx hb hC.1 1 hat hA hS rfl (sp_in_of hin) hdg fun H1 locs1 e1 e2 e3 hS1 => kk H1 locs1 0 0 (sp_rel_up hR hA e1 e2 e3) hS1 rfl rfl
    · cases h
  · cases h
theorem sp_ist_sound2 (X : sp_cx p s m args meth c cc D dA A G cn ini) (hS : va_S A s.heap H locs) (hR : sp_rel D dA A M H) {x j : Int32} {a : Nat} (hdg : decode cc pc = .ok (.castore, 1)) (h : sp_ist 2 (vp_nar .char) x j a st M = some (st', M'))
    (kk : sp_kk p l e R s m args below meth c cells slots Q D dA A M M' (F0 m (pc + 1) ls st')) : W p l e R s m args below meth c H locs cells slots Q (F0 m pc ls (.int x :: .int j :: .ref a :: st)) := by
  obtain ⟨hx, hb, hown, hts, hC, -, -⟩ := X
  unfold sp_ist at h
  split at h
  · rename_i q n f h2
    split at h
    · rename_i hq
      obtain ⟨hq, hin⟩ := hq
      subst hq
      cases h
      obtain ⟨hA, hat⟩ := hR.2 a _ h2
      exact sx_cast hx hb hC.1 2 hat hA hS rfl (sp_in_of hin) hdg fun H1 locs1 e1 e2 e3 hS1 => kk H1 locs1 0 0 (sp_rel_up hR hA e1 e2 e3) hS1 rfl rfl
    · cases h
  · cases h
theorem sp_lld_sound (X : sp_cx p s m args meth c cc D dA A G cn ini) (hS : va_S A s.heap H locs) (hR : sp_rel D dA A M H) {j : Int32} {a : Nat} (hdg : decode cc pc = .ok (.laload, 1)) (h : sp_lld j a st M = some (st', M'))
    (kk : sp_kk p l e R s m args below meth c cells slots Q D dA A M M' (F0 m (pc + 1) ls st')) : W p l e R s m args below meth c H locs cells slots Q (F0 m pc ls (.int j :: .ref a :: st)) := by
  obtain ⟨hx, hb, hown, hts, hC, -, -⟩ := X
  unfold sp_lld at h
  cases h
theorem sp_lst_sound (X : sp_cx p s m args meth c cc D dA A G cn ini) (hS : va_S A s.heap H locs) (hR : sp_rel D dA A M H) {x : Int64} {j : Int32} {a : Nat} (hdg : decode cc pc = .ok (.lastore, 1)) (h : sp_lst x j a st M = some (st', M'))
    (kk : sp_kk p l e R s m args below meth c cells slots Q D dA A M M' (F0 m (pc + 1) ls st')) : W p l e R s m args below meth c H locs cells slots Q (F0 m pc ls (.long x :: .int j :: .ref a :: st)) := by
  obtain ⟨hx, hb, hown, hts, hC, -, -⟩ := X
  unfold sp_lst at h
  cases h
theorem sp_ald_sound (X : sp_cx p s m args meth c cc D dA A G cn ini) (hS : va_S A s.heap H locs) (hR : sp_rel D dA A M H) {j : Int32} {a : Nat} (hdg : decode cc pc = .ok (.aaload, 1)) (h : sp_ald j a st M = some (st', M'))
    (kk : sp_kk p l e R s m args below meth c cells slots Q D dA A M M' (F0 m (pc + 1) ls st')) : W p l e R s m args below meth c H locs cells slots Q (F0 m pc ls (.int j :: .ref a :: st)) := by
  obtain ⟨hx, hb, hown, hts, hC, -, -⟩ := X
  unfold sp_ald at h
  split at h
  · rename_i q n f h2
    split at h
    · rename_i hq
      obtain ⟨hq, hin⟩ := hq
      cases h
      have hat := (hR.2 a _ h2).2
      rcases hq with rfl | rfl
      · exact sx_aald hx hb hC.1 4 hat rfl rfl (sp_in_of hin) hdg (kk H locs 0 0 hR hS rfl rfl)
      · exact sx_aald hx hb hC.1 5 hat rfl rfl (sp_in_of hin) hdg (kk H locs 0 0 hR hS rfl rfl)
    · cases h
  · cases h
theorem sp_ast_sound (X : sp_cx p s m args meth c cc D dA A G cn ini) (hS : va_S A s.heap H locs) (hR : sp_rel D dA A M H) {v : Nat} {j : Int32} {a : Nat} (hdg : decode cc pc = .ok (.aastore, 1)) (h : sp_ast v j a st M = some (st', M'))
    (kk : sp_kk p l e R s m args below meth c cells slots Q D dA A M M' (F0 m (pc + 1) ls st')) : W p l e R s m args below meth c H locs cells slots Q (F0 m pc ls (.ref v :: .int j :: .ref a :: st)) := by
  obtain ⟨hx, hb, hown, hts, hC, -, -⟩ := X
  unfold sp_ast at h
  split at h
  · rename_i q n f vs h2 h3
    split at h
    · rename_i hq
      obtain ⟨hq, hin⟩ := hq
      subst hq
      cases h
      obtain ⟨hA, hat⟩ := hR.2 a _ h2
      exact sx_aast (ci := 3) (r := (RX3, TX3, 15)) hx hb hC.1 4 hat hA hS rfl (hR.2 v _ h3).2 rfl (sp_in_of hin) hdg fun H1 locs1 e1 e2 e3 hS1 => kk H1 locs1 0 0 (sp_rel_up hR hA e1 e2 e3) hS1 rfl rfl
    · cases h
  · cases h
theorem sp_len_sound (X : sp_cx p s m args meth c cc D dA A G cn ini) (hS : va_S A s.heap H locs) (hR : sp_rel D dA A M H) {a : Nat} (hdg : decode cc pc = .ok (.arraylength, 1)) (h : sp_len G a st M = some (st', M'))
    (kk : sp_kk p l e R s m args below meth c cells slots Q D dA A M M' (F0 m (pc + 1) ls st')) : W p l e R s m args below meth c H locs cells slots Q (F0 m pc ls (.ref a :: st)) := by
  obtain ⟨hx, hb, hown, hts, hC, -, -⟩ := X
  unfold sp_len at h
  split at h
  · rename_i q n x h2
    split at h
    · rename_i hq
      cases h
      have hat := (hR.2 a _ h2).2
      have ht : ∃ ty, (sp_tys dA)[q]? = some (dA q, ty) := by
        match q, hq with
        | 0, _ => exact ⟨_, rfl⟩
        | 1, _ => exact ⟨_, rfl⟩
        | 2, _ => exact ⟨_, rfl⟩
        | 3, _ => exact ⟨_, rfl⟩
        | 4, _ => exact ⟨_, rfl⟩
        | 5, _ => exact ⟨_, rfl⟩
      obtain ⟨ty, ht⟩ := ht
      exact va_alen hx hb hC.1 (sp_at1 hat) 0 q rfl ht rfl hdg (kk H locs 0 0 hR hS rfl rfl)
    · cases h
  · cases h
  · split at h
    · rename_i ha
      subst ha
      cases h
      exact va_slen hx hb hC.2.2.2.2.2.2.2.2.2.2.2.2.1 hC.2.2.2.2.2.2.2.2.2.2.2.2.2.1 hC.2.2.2.2.2.2.2.2.2.2.2.2.2.2 hS hdg (kk H locs 0 0 hR hS rfl rfl)
    · cases h
theorem sp_df_ok (ci : Nat) : ∀ j, j < sp_N ci → defaultValue (sp_ty ci j) = vp_V (sp_df ci) j := by
  intro j hj
  unfold vp_V sp_df
  rw [List.getD_eq_getElem?_getD, List.getElem?_map, List.getElem?_range hj]
  rfl
theorem sp_new_sound (X : sp_cx p s m args meth c cc D dA A G cn ini) (hS : va_S A s.heap H locs) (hR : sp_rel D dA A M H) {idx : Nat} (hdg : decode cc pc = .ok (.new idx, 3)) (h : sp_new cn idx st M = some (st', M')) (hrm : sp_rm R cells slots M M')
    (kk : sp_kk p l e R s m args below meth c cells slots Q D dA A M M' (F0 m (pc + 3) ls st')) : W p l e R s m args below meth c H locs cells slots Q (F0 m pc ls st) := by
  obtain ⟨hx, hb, hown, hts, hC, -, hA⟩ := X
  unfold sp_new at h
  split at h
  · rename_i ci z h1 h2
    cases h
    have hm := sp_fd_mem h1
    have hci := sp_nw_ok _ hm
    obtain ⟨c1, c2, c3, c4⟩ := sp_cl hci
    obtain ⟨r1, r2⟩ := hrm 1 (sp_N ci) rfl rfl
    have hz := hR.1 z h2
    refine sx_new hx hb hts c2 _ c3 hown (hts _ (sp_nw_in _ (List.mem_map.mpr ⟨_, hm, rfl⟩))) (hts _ (sp_nw_i1 _ (List.mem_map.mpr ⟨_, hm, rfl⟩))) (hts _ (sp_nw_i2 _ (List.mem_map.mpr ⟨_, hm, rfl⟩))) hC.1 hS c1 (sp_df_ok ci) r1 r2 hdg fun H1 e1 e2 e3 hS1 => ?_
    rw [hz] at e1 ⊢
    exact kk H1 locs 1 (sp_N ci) (sp_rel_new (e := .inr (ci, sp_df ci)) hR h2 (hA z (by rw [← hz]; exact hS.1)) e1 e2 e3 _ _) hS1 rfl rfl
  · cases h
theorem sp_nea_sound (X : sp_cx p s m args meth c cc D dA A G cn ini) (hS : va_S A s.heap H locs) (hR : sp_rel D dA A M H) {t : ArrayType} {n : Int32} (hdg : decode cc pc = .ok (.newarray t, 2)) (h : sp_nea t n st M = some (st', M')) (hrm : sp_rm R cells slots M M')
    (kk : sp_kk p l e R s m args below meth c cells slots Q D dA A M M' (F0 m (pc + 2) ls st')) : W p l e R s m args below meth c H locs cells slots Q (F0 m pc ls (.int n :: st)) := by
  obtain ⟨hx, hb, hown, hts, hC, -, hA⟩ := X
  unfold sp_nea at h
  split at h
  · cases h
  · rename_i z h2
    have hz := hR.1 z h2
    have hAz := hA z (by rw [← hz]; exact hS.1)
    split at h
    · rename_i hn
      obtain ⟨hn, hn2⟩ := hn
      split at h
      · cases h
        obtain ⟨r1, r2⟩ := hrm 1 n.toNatClampNeg rfl rfl
        refine sx_newa (D := D) (cl := vwCl) hx hb (ty := .int) rfl (hts _ (sp_arr_in _ (by simp))) (hC.1.2 0 _ rfl).2 hS (a0 := (n.toNatClampNeg, .inl (fun _ => 0))) (vp_cell_i _ _ _) hn rfl (Nat.le_trans (Nat.mul_le_mul_right _ hn2) (by decide)) r1 r2 hdg fun H1 e1 e2 e3 hS1 => ?_
        rw [hz] at e1 ⊢
        exact kk H1 locs 1 _ (sp_rel_new (e := .inl (0, n.toNatClampNeg, .inl (fun _ => 0))) hR h2 hAz e1 e2 e3 _ _) hS1 rfl rfl
      · cases h
        obtain ⟨r1, r2⟩ := hrm 1 n.toNatClampNeg rfl rfl
        refine sx_newa (D := D) (cl := vwCl) hx hb (ty := .boolean) rfl (hts _ (sp_arr_in _ (by simp))) (hC.1.2 1 _ rfl).2 hS (a0 := (n.toNatClampNeg, .inl (fun _ => 0))) (vp_cell_i _ _ _) hn rfl (Nat.le_trans (Nat.mul_le_mul_right _ hn2) (by decide)) r1 r2 hdg fun H1 e1 e2 e3 hS1 => ?_
        rw [hz] at e1 ⊢
        exact kk H1 locs 1 _ (sp_rel_new (e := .inl (1, n.toNatClampNeg, .inl (fun _ => 0))) hR h2 hAz e1 e2 e3 _ _) hS1 rfl rfl
      · cases h
        obtain ⟨r1, r2⟩ := hrm 1 n.toNatClampNeg rfl rfl
        refine sx_newa (D := D) (cl := vwCl) hx hb (ty := .char) rfl (hts _ (sp_arr_in _ (by simp))) (hC.1.2 2 _ rfl).2 hS (a0 := (n.toNatClampNeg, .inl (fun _ => 0))) (vp_cell_i _ _ _) hn rfl (Nat.le_trans (Nat.mul_le_mul_right _ hn2) (by decide)) r1 r2 hdg fun H1 e1 e2 e3 hS1 => ?_
        rw [hz] at e1 ⊢
        exact kk H1 locs 1 _ (sp_rel_new (e := .inl (2, n.toNatClampNeg, .inl (fun _ => 0))) hR h2 hAz e1 e2 e3 _ _) hS1 rfl rfl
      · cases h
    · cases h
theorem sp_neq_sound (X : sp_cx p s m args meth c cc D dA A G cn ini) (hS : va_S A s.heap H locs) (hR : sp_rel D dA A M H) {idx : Nat} {n : Int32} (hdg : decode cc pc = .ok (.anewarray idx, 3)) (h : sp_neq cn idx n st M = some (st', M')) (hrm : sp_rm R cells slots M M')
    (kk : sp_kk p l e R s m args below meth c cells slots Q D dA A M M' (F0 m (pc + 3) ls st')) : W p l e R s m args below meth c H locs cells slots Q (F0 m pc ls (.int n :: st)) := by
  obtain ⟨hx, hb, hown, hts, hC, -, hA⟩ := X
  unfold sp_neq at h
  split at h
  · rename_i z h1 h2
    split at h
    · rename_i hn
      obtain ⟨hn, hn2⟩ := hn
      cases h
      have hz := hR.1 z h2
      have hAz := hA z (by rw [← hz]; exact hS.1)
      have hm := sp_fd_mem h1
      obtain ⟨r1, r2⟩ := hrm 1 n.toNatClampNeg rfl rfl
      obtain ⟨-, -, -, -, -, hfA⟩ := (hC.1.2 4 _ rfl).2
      refine sx_anew (D := D) (cl := vwCl) hx hb hown (hts _ (sp_an_in _ (List.mem_map.mpr ⟨_, hm, rfl⟩))) hC.2.2.1 hfA hS hn rfl (Nat.le_trans (Nat.mul_le_mul_right _ hn2) (by decide)) r1 r2 hdg fun H1 e1 e2 e3 hS1 => ?_
      rw [hz] at e1 ⊢
      exact kk H1 locs 1 _ (sp_rel_new (e := .inl (4, n.toNatClampNeg, .inr (.inr (.inr (.inr (fun _ => none)))))) hR h2 hAz e1 e2 e3 _ _) hS1 rfl rfl
    · cases h
  · cases h
theorem sp_nem_sound (X : sp_cx p s m args meth c cc D dA A G cn ini) (hS : va_S A s.heap H locs) (hR : sp_rel D dA A M H) {idx : Nat} {n k : Int32} (hdg : decode cc pc = .ok (.multianewarray idx 2, 4)) (h : sp_nem cn idx k n st M = some (st', M')) (hrm : sp_rm R cells slots M M')
    (kk : sp_kk p l e R s m args below meth c cells slots Q D dA A M M' (F0 m (pc + 4) ls st')) : W p l e R s m args below meth c H locs cells slots Q (F0 m pc ls (.int k :: .int n :: st)) := by
  obtain ⟨hx, hb, hown, hts, hC, -, hA⟩ := X
  unfold sp_nem at h
  split at h
  · rename_i z h1 h2
    split at h
    · rename_i hn
      obtain ⟨hn, hn2, hk, hk2⟩ := hn
      cases h
      have hz := hR.1 z h2
      have hm := sp_fd_mem h1
      obtain ⟨r1, r2⟩ := hrm (1 + n.toNatClampNeg) (n.toNatClampNeg + n.toNatClampNeg * k.toNatClampNeg) (by simp [Nat.add_assoc]) (by simp [Nat.add_assoc])
      refine sx_mna (D := D) (cl := vwCl) hx hb hown (hts _ (sp_mu_in _ (List.mem_map.mpr ⟨_, hm, rfl⟩))) hC.2.2.2.1 (hts _ (sp_arr_in _ (by simp))) (hC.1.2 0 _ rfl).2 (hC.1.2 5 _ rfl).2 hS hn hk rfl rfl (Nat.le_trans (Nat.mul_le_mul_right _ hn2) (by decide)) (Nat.le_trans (Nat.mul_le_mul_right _ hk2) (by decide)) r1 r2 hdg fun H1 e1 e2 e3 e4 hS1 => ?_
      rw [hz] at e1 e2 e3 ⊢
      have hrel : sp_rel D dA A (some (z + 1 + n.toNatClampNeg), M.2.1 + 1 + n.toNatClampNeg, M.2.2.1 + n.toNatClampNeg + n.toNatClampNeg * k.toNatClampNeg, sp_mup M.2.2.2 z n.toNatClampNeg k.toNatClampNeg) H1 := by
        refine ⟨fun z' hz' => by cases hz'; exact e3, fun b e' hb => ?_⟩
        have hb : sp_mup M.2.2.2 z n.toNatClampNeg k.toNatClampNeg b = some e' := hb
        unfold sp_mup at hb
        have hS0 := hS.1
        split at hb
        · rename_i hbz
          cases hb
          subst hbz
          exact ⟨hA _ (by omega), e1⟩
        · split at hb
          · rename_i hbz
            cases hb
            have := e2 (b - (z + 1)) (by omega)
            rw [show z + 1 + (b - (z + 1)) = b by omega] at this
            exact ⟨hA _ (by omega), this⟩
          · obtain ⟨h3, h4⟩ := hR.2 b e' hb
            exact ⟨h3, h4.kept (e4 b h4.lt)⟩
      have hgo := kk H1 locs (1 + n.toNatClampNeg) (n.toNatClampNeg + n.toNatClampNeg * k.toNatClampNeg) hrel hS1 (by simp [Nat.add_assoc]) (by simp [Nat.add_assoc])
      simpa [Nat.add_assoc] using hgo
    · cases h
  · cases h
set_option maxHeartbeats 1000000 in
theorem sp_hp_sound (X : sp_cx p s m args meth c cc D dA A G cn ini) (hS : va_S A s.heap H locs) (hR : sp_rel D dA A M H) {i : Instr} (hdg : decode cc pc = .ok (i, len)) (h : sp_hp G cn ini i len st M = some (st', M')) (hrm : sp_rm R cells slots M M')
    (kk : sp_kk p l e R s m args below meth c cells slots Q D dA A M M' (F0 m (pc + len) ls st')) : W p l e R s m args below meth c H locs cells slots Q (F0 m pc ls st) := by
  unfold sp_hp at h
  split at h
  · exact sp_getf_sound X hS hR hdg h kk
  · exact sp_putf_sound X hS hR hdg h kk
  · exact sp_gets_sound X hS hR hdg h kk
  · exact sp_len_sound X hS hR hdg h kk
  · exact sp_ild_sound X hS hR (Or.inl ⟨rfl, hdg⟩) h kk
  · exact sp_ild_sound X hS hR (Or.inr (Or.inl ⟨rfl, hdg⟩)) h kk
  · exact sp_ild_sound X hS hR (Or.inr (Or.inr ⟨rfl, hdg⟩)) h kk
  · exact sp_lld_sound X hS hR hdg h kk
  · exact sp_ald_sound X hS hR hdg h kk
  · exact sp_ist_sound0 X hS hR hdg h kk
  · exact sp_ist_sound1 X hS hR hdg h kk
  · exact sp_ist_sound2 X hS hR hdg h kk
  · exact sp_lst_sound X hS hR hdg h kk
  · exact sp_ast_sound X hS hR hdg h kk
  · exact sp_new_sound X hS hR hdg h hrm kk
  · exact sp_nea_sound X hS hR hdg h hrm kk
  · exact sp_neq_sound X hS hR hdg h hrm kk
  · exact sp_nem_sound X hS hR hdg h hrm kk
  · cases h
/-- the counts only grow -/
theorem sp_hp_mono {i : Instr} (h : sp_hp G cn ini i len st M = some (st', M')) : M.2.1 ≤ M'.2.1 ∧ M.2.2.1 ≤ M'.2.2.1 := by
  have hs : ∀ (M : sp_M) a e, M.2.1 ≤ (sp_set M a e).2.1 ∧ M.2.2.1 ≤ (sp_set M a e).2.2.1 := fun M a e => ⟨Nat.le_refl _, Nat.le_refl _⟩
  unfold sp_hp at h
  split at h
  · unfold sp_getf at h; split at h
    · split at h
      · obtain ⟨v, -, hv⟩ := Option.map_eq_some_iff.mp h; cases hv; exact ⟨Nat.le_refl _, Nat.le_refl _⟩
      · cases h
    · cases h
  · unfold sp_putf at h; split at h
    · split at h
      · cases h; exact hs _ _ _
      · cases h
    · cases h
  · obtain ⟨v, -, hv⟩ := Option.map_eq_some_iff.mp h; cases hv; exact ⟨Nat.le_refl _, Nat.le_refl _⟩
  · unfold sp_len at h; repeat' split at h
    all_goals first | (cases h; done) | (cases h; exact ⟨Nat.le_refl _, Nat.le_refl _⟩)
  · unfold sp_ild at h; repeat' split at h
    all_goals first | (cases h; done) | (cases h; exact ⟨Nat.le_refl _, Nat.le_refl _⟩)
  · unfold sp_ild at h; repeat' split at h
    all_goals first | (cases h; done) | (cases h; exact ⟨Nat.le_refl _, Nat.le_refl _⟩)
  · unfold sp_ild at h; repeat' split at h
    all_goals first | (cases h; done) | (cases h; exact ⟨Nat.le_refl _, Nat.le_refl _⟩)
  · unfold sp_lld at h; repeat' split at h
    all_goals first | (cases h; done) | (cases h; exact ⟨Nat.le_refl _, Nat.le_refl _⟩)
  · unfold sp_ald at h; repeat' split at h
    all_goals first | (cases h; done) | (cases h; exact ⟨Nat.le_refl _, Nat.le_refl _⟩)
  · unfold sp_ist at h; repeat' split at h
    all_goals first | (cases h; done) | (cases h; exact hs _ _ _)
  · unfold sp_ist at h; repeat' split at h
    all_goals first | (cases h; done) | (cases h; exact hs _ _ _)
  · unfold sp_ist at h; repeat' split at h
    all_goals first | (cases h; done) | (cases h; exact hs _ _ _)
  · unfold sp_lst at h; repeat' split at h
    all_goals first | (cases h; done) | (cases h; exact hs _ _ _)
  · unfold sp_ast at h; repeat' split at h
    all_goals first | (cases h; done) | (cases h; exact hs _ _ _)
  · unfold sp_new at h; repeat' split at h
    all_goals first | (cases h; done) | (cases h; exact ⟨Nat.le_add_right _ _, Nat.le_add_right _ _⟩)
  · unfold sp_nea at h; repeat' split at h
    all_goals first | (cases h; done) | (cases h; exact ⟨Nat.le_add_right _ _, Nat.le_add_right _ _⟩)
  · unfold sp_neq at h; repeat' split at h
    all_goals first | (cases h; done) | (cases h; exact ⟨Nat.le_add_right _ _, Nat.le_add_right _ _⟩)
  · unfold sp_nem at h; repeat' split at h
    all_goals first | (cases h; done) | (cases h; exact ⟨by simp [Nat.add_assoc], by simp [Nat.add_assoc]⟩)
  · cases h
end SPC
