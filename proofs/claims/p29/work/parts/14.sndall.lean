/-! ===== by induction on the rounds ===== -/
section SPF
variable {D : va_G} {dA : Nat → ClassId} {A : Nat → Prop} {G : sp_G} {n : Nat}
variable {p : Program} {l : Launch} {e0 : Env} {R : Room} {s : State} {m : MethodId} {args : Array Value} {below : List Frame} {meth : Method} {c : Code} {H : Heap} {locs : List Loc} {cells slots : Nat} {Q : State → Prop}
theorem sp_ctx_at {U : State} (hS : va_S A s.heap H locs) (hC : sp_ctx D dA A G s s.heap) (hU : U.heap = H) (hW : s.WarmedH U.vm) : sp_ctx D dA A G U U.heap := by
  rw [hU]
  exact sp_ctx.warm hW (hC.kept hS.1 hS.2.1)
theorem sp_Pc_at {as : List Value} {M : sp_M} (hS : va_S A s.heap H locs) (hC : sp_ctx D dA A G s s.heap) (hR : sp_rel D dA A M H) (hA : ∀ q, s.heap.size ≤ q → A q) : ∀ U : State, U.heap = H → s.WarmedH U.vm → sp_Pc D dA A G as M as.toArray U :=
  fun U hU hW => ⟨rfl, sp_ctx_at hS hC hU hW, by rw [hU]; exact hR, fun q hq => hA q (Nat.le_trans hS.1 (by rw [hU] at hq; exact hq))⟩
theorem sp_isC_of {M : sp_M} {b k : Nat} (h : sp_isC M b k = true) : ∃ fs, M.2.2.2 b = some (.inr (k, fs)) := by
  unfold sp_isC at h
  split at h
  · rename_i cj fs hb
    have := of_decide_eq_true h
    subst this
    exact ⟨fs, hb⟩
  · cases h
theorem sp_ci_lt : ∀ e ∈ sp_T0, e.2.2.2.2.2.2.2.2.2 = 0 → e.2.2.2.2.2.1 < 6 := by decide +kernel
theorem sp_no_hh : ∀ e ∈ sp_T0, e.2.2.2.2.2.2.2.2.2 ≠ 1 → e.2.2.2.2.1 = [] := by decide +kernel
theorem sp_recv_of {y : Nat} {e : sp_E} {st : List Value} {M : sp_M} {v : Bool} {q : sp_C} (h : sp_recv y e st M v = some q) : ∃ b rest, q = .inr (y, .ref b :: (st.take e.2.2.2.2.2.2.1).reverse, rest) ∧ st = ((st.take e.2.2.2.2.2.2.1).reverse).reverse ++ .ref b :: rest ∧ ((st.take e.2.2.2.2.2.2.1).reverse).length = e.2.2.2.2.2.2.1 ∧ (v = true → ∃ fs, M.2.2.2 b = some (.inr (e.2.2.2.2.2.1, fs))) ∧ sp_sum rest ≤ 8 ∧ (sp_ea (.ref b :: (st.take e.2.2.2.2.2.2.1).reverse)).length ≤ e.2.2.1 := by
  unfold sp_recv at h
  split at h
  · rename_i b rest hd
    split at h
    · rename_i hc
      cases h
      obtain ⟨h1, h2, h3, h4⟩ := hc
      refine ⟨b, rest, rfl, ?_, ?_, fun hv => sp_isC_of (h1 hv), h2, h3⟩
      · rw [List.reverse_reverse, ← hd, List.take_append_drop]
      · simp; omega
    · cases h
  · cases h
theorem sp_fits_of {e e' : sp_E} (h : sp_fits e e' = true) : e'.2.2.2.2.2.2.2.1 + 1 ≤ e.2.2.2.2.2.2.2.1 ∧ 8 + (e'.2.2.1 + 11) + e'.2.2.2.2.2.2.2.2.1 ≤ e.2.2.2.2.2.2.2.2.1 := of_decide_eq_true h
theorem sp_ws_in {e : sp_E} (he : e ∈ sp_T0) : ∀ w ∈ sp_ws e, w ∈ sp_AW := fun w hw => by
  rcases List.mem_cons.mp hw with rfl | hw
  · exact sp_T_code _ (List.mem_map.mpr ⟨e, he, rfl⟩)
  · exact hw
/-- a call by the receiver's class -/
theorem sp_goV (IH : sp_Snd D dA A G n) {y pc idx : Nat} {e e' : sp_E} {st rest : List Value} {M M1 : sp_M} {r1 : sp_R} {b : Nat} {As : List Value} {ls : Array Slot} (hlt : l.stackTraces = false) (X : sp_cx p s m args meth c e.2.1 D dA A G e.2.2.2.2.2.1 (decide (e.2.2.2.2.2.2.2.2.2 = 2))) (hml : c.maxLocals = e.2.2.1) (hfr : e.2.2.2.2.2.2.2.1 ≤ R.frames) (hlo : e.2.2.2.2.2.2.2.2.1 ≤ R.locals) (hS : va_S A s.heap H locs) (hR : sp_rel D dA A M H) (hls : ls.size = e.2.2.1) (hdg : decode e.2.1 pc = .ok (.invokevirtual idx, 3))
    (hy : sp_fd sp_caT e.2.2.2.2.2.1 idx = some y) (he' : sp_T0[y]? = some e') (hk : e'.2.2.2.2.2.2.2.2.2 = 0) (hfit : sp_fits e e' = true) (hst : st = As.reverse ++ .ref b :: rest) (hlen : As.length = e'.2.2.2.2.2.2.1) (hobj : ∃ fs, M.2.2.2 b = some (.inr (e'.2.2.2.2.2.1, fs))) (hsum : sp_sum rest ≤ 8) (hea : (sp_ea (.ref b :: As)).length ≤ e'.2.2.1) (hex : sp_exec G n y 0 (sp_ent (sp_ml y) (.ref b :: As)) [] M = some (r1, M1))
    (hrc : cells + (M1.2.1 - M.2.1) ≤ R.cells) (hrs : slots + (M1.2.2.1 - M.2.2.1) ≤ R.slots)
    (kx : ∀ (E : String) (ce : Cell) (q9 : Addr) (H1 : Heap) (locs1 : List Loc), r1 = .inr E → sp_rel D dA A M1 H1 → va_S A s.heap H1 locs1 → H1[q9]? = some ce → ce.vm = .none → s.vm.findClass E = some ce.cls → vx_W p l e0 R s m args below meth c H1 locs1 (cells + (M1.2.1 - M.2.1)) (slots + (M1.2.2.1 - M.2.2.1)) Q (F0 m pc ls rest) q9)
    (kk : ∀ (v : Option Value) (H1 : Heap) (locs1 : List Loc), r1 = .inl v → sp_rel D dA A M1 H1 → va_S A s.heap H1 locs1 → W p l e0 R s m args below meth c H1 locs1 (cells + (M1.2.1 - M.2.1)) (slots + (M1.2.2.1 - M.2.2.1)) Q (F0 m (pc + 3) ls (v.toList ++ rest))) : W p l e0 R s m args below meth c H locs cells slots Q (F0 m pc ls st) := by
  obtain ⟨hx, hb, hown, hts, hC, -, hA⟩ := X
  obtain ⟨hT, hmem⟩ := sp_T_get he'
  obtain ⟨⟨-, hmh⟩, hpar, hcl, -⟩ := sp_T_ok e' hmem
  have hhh : e'.2.2.2.2.1 = [] := sp_no_hh e' hmem (by omega)
  obtain ⟨f1, f2⟩ := sp_fits_of hfit
  obtain ⟨fs, hfs⟩ := hobj
  have hm := sp_fd_mem hy
  have hnm : sp_nm y = e'.1 := by unfold sp_nm; rw [hT]
  have hlink : Cond.methodLink (sp_cls e.2.2.2.2.2.1) idx e'.1 ∈ sp_AW := by rw [← hnm]; exact sp_ca_in _ (List.mem_map.mpr ⟨_, hm, rfl⟩)
  have hkd : e' ∈ sp_T0.filter (fun e => decide (e.2.2.2.2.2.2.2.2.2 ≠ 1)) := List.mem_filter.mpr ⟨hmem, by rw [hk]; decide⟩
  have hkd0 : e' ∈ sp_T0.filter (fun e => decide (e.2.2.2.2.2.2.2.2.2 = 0)) := List.mem_filter.mpr ⟨hmem, by rw [hk]; decide⟩
  have hgood : GoodIn sp_AW (wsV (sp_cls e.2.2.2.2.2.1) idx e'.1.cls e'.1 (sp_ws e')) := sp_goodIn fun w hw => by
    unfold wsV at hw
    rcases List.mem_append.mp hw with hw | hw
    · simp only [List.mem_cons, List.not_mem_nil, or_false] at hw
      rcases hw with rfl | rfl | rfl | rfl
      · exact hlink
      · exact sp_T_inst _ (List.mem_map.mpr ⟨e', hkd, rfl⟩)
      · exact sp_T_sel _ (List.mem_map.mpr ⟨e', hkd0, rfl⟩)
      · exact sp_T_ini _ (List.mem_map.mpr ⟨e', hmem, rfl⟩)
    · exact sp_ws_in hmem w hw
  have hM := sp_met IH he' hex hea hlt
  have c1 := (sp_cl (sp_ci_lt e' hmem hk)).1
  have hrecv := va_recv hC.1 (sp_at1 (hR.2 b _ hfs).2) (ci := e'.2.2.2.2.2.1) (q0 := 0) c1 rfl
  rw [show (sp_cls e'.2.2.2.2.2.1, sp_Tf e'.2.2.2.2.2.1, sp_N e'.2.2.2.2.2.1).1 = e'.1.cls from hcl.symm] at hrecv
  refine sp_call_end (vx_runV (bytes := e'.2.1) (maxL := e'.2.2.1) (ret := e'.2.2.2.1) (n := e'.2.2.2.2.2.2.1) (Ts := sp_AW) ⟨hx, hb, hml, hown, hts⟩ hM (cwV (C := e'.1.cls) (ws' := sp_AW) _ hts hgood (by unfold sp_ws sp_code; rw [if_pos hhh]) rfl rfl ⟨rfl, hmh.1, hmh.2, hpar⟩ ⟨by show e'.2.2.2.2.2.2.2.1 + 1 ≤ R.frames; omega, by show 8 + (e'.2.2.1 + 11) + e'.2.2.2.2.2.2.2.2.1 ≤ R.locals; omega⟩) ⟨sp_Pc_blind, hrecv, sp_Pc_at hS hC hR hA⟩ rfl hlen hls hst (by show 2 * 0 + _ ≤ 8; rw [Nat.mul_zero, Nat.zero_add]; exact hsum) hdg ⟨hrc, hrs⟩) hS kx kk
/-- a static call -/
theorem sp_goS (IH : sp_Snd D dA A G n) {y pc idx : Nat} {e e' : sp_E} {st rest : List Value} {M M1 : sp_M} {r1 : sp_R} {As : List Value} {ls : Array Slot} (hlt : l.stackTraces = false) (X : sp_cx p s m args meth c e.2.1 D dA A G e.2.2.2.2.2.1 (decide (e.2.2.2.2.2.2.2.2.2 = 2))) (hml : c.maxLocals = e.2.2.1) (hfr : e.2.2.2.2.2.2.2.1 ≤ R.frames) (hlo : e.2.2.2.2.2.2.2.2.1 ≤ R.locals) (hS : va_S A s.heap H locs) (hR : sp_rel D dA A M H) (hls : ls.size = e.2.2.1) (hdg : decode e.2.1 pc = .ok (.invokestatic idx, 3))
    (hy : sp_fd sp_caT e.2.2.2.2.2.1 idx = some y) (he' : sp_T0[y]? = some e') (hk : e'.2.2.2.2.2.2.2.2.2 = 1) (hcc : e'.2.2.2.2.2.1 = e.2.2.2.2.2.1) (hfit : sp_fits e e' = true) (hst : st = As.reverse ++ rest) (hlen : As.length = e'.2.2.2.2.2.2.1) (hsum : sp_sum rest ≤ 8) (hea : (sp_ea As).length ≤ e'.2.2.1) (hex : sp_exec G n y 0 (sp_ent (sp_ml y) As) [] M = some (r1, M1))
    (hrc : cells + (M1.2.1 - M.2.1) ≤ R.cells) (hrs : slots + (M1.2.2.1 - M.2.2.1) ≤ R.slots)
    (kx : ∀ (E : String) (ce : Cell) (q9 : Addr) (H1 : Heap) (locs1 : List Loc), r1 = .inr E → sp_rel D dA A M1 H1 → va_S A s.heap H1 locs1 → H1[q9]? = some ce → ce.vm = .none → s.vm.findClass E = some ce.cls → vx_W p l e0 R s m args below meth c H1 locs1 (cells + (M1.2.1 - M.2.1)) (slots + (M1.2.2.1 - M.2.2.1)) Q (F0 m pc ls rest) q9)
    (kk : ∀ (v : Option Value) (H1 : Heap) (locs1 : List Loc), r1 = .inl v → sp_rel D dA A M1 H1 → va_S A s.heap H1 locs1 → W p l e0 R s m args below meth c H1 locs1 (cells + (M1.2.1 - M.2.1)) (slots + (M1.2.2.1 - M.2.2.1)) Q (F0 m (pc + 3) ls (v.toList ++ rest))) : W p l e0 R s m args below meth c H locs cells slots Q (F0 m pc ls st) := by
  obtain ⟨hx, hb, hown, hts, hC, -, hA⟩ := X
  obtain ⟨hT, hmem⟩ := sp_T_get he'
  obtain ⟨⟨-, hmh⟩, hpar, hcl, -⟩ := sp_T_ok e' hmem
  obtain ⟨f1, f2⟩ := sp_fits_of hfit
  have hm := sp_fd_mem hy
  have hnm : sp_nm y = e'.1 := by unfold sp_nm; rw [hT]
  have hlink : Cond.methodLink (sp_cls e.2.2.2.2.2.1) idx e'.1 ∈ sp_AW := by rw [← hnm]; exact sp_ca_in _ (List.mem_map.mpr ⟨_, hm, rfl⟩)
  have hkd : e' ∈ sp_T0.filter (fun e => decide (e.2.2.2.2.2.2.2.2.2 = 1)) := List.mem_filter.mpr ⟨hmem, by rw [hk]; decide⟩
  have hgood : GoodIn sp_AW (va_wsS (sp_cls e.2.2.2.2.2.1) idx e'.1 (sp_ws e')) := sp_goodIn fun w hw => by
    unfold va_wsS at hw
    rcases List.mem_append.mp hw with hw | hw
    · simp only [List.mem_cons, List.not_mem_nil, or_false] at hw
      rcases hw with rfl | rfl | rfl
      · exact hlink
      · exact sp_T_stat _ (List.mem_map.mpr ⟨e', hkd, rfl⟩)
      · exact sp_T_ini _ (List.mem_map.mpr ⟨e', hmem, rfl⟩)
    · exact sp_ws_in hmem w hw
  have hM := sp_met IH he' hex hea hlt
  by_cases hhh : e'.2.2.2.2.1 = []
  · exact sp_call_end (vx_runS (bytes := e'.2.1) (maxL := e'.2.2.1) (ret := e'.2.2.2.1) (n := e'.2.2.2.2.2.2.1) (Ts := sp_AW) ⟨hx, hb, hml, hown, hts⟩ hM (va_cwS (ws' := sp_AW) _ hts hgood (by unfold sp_ws sp_code; rw [if_pos hhh]) rfl rfl ⟨hmh.1, hmh.2, hpar⟩ ⟨by show e'.2.2.2.2.2.2.2.1 + 1 ≤ R.frames; omega, by show 8 + (e'.2.2.1 + 11) + e'.2.2.2.2.2.2.2.2.1 ≤ R.locals; omega⟩) ⟨sp_Pc_blind, sp_Pc_at hS hC hR hA⟩ rfl hlen hls hst (by show 2 * 0 + _ ≤ 8; rw [Nat.mul_zero, Nat.zero_add]; exact hsum) hdg ⟨hrc, hrs⟩) hS kx kk
  · exact sp_call_end (vx_runSX (bytes := e'.2.1) (maxL := e'.2.2.1) (ret := e'.2.2.2.1) (hh := e'.2.2.2.2.1) (n := e'.2.2.2.2.2.2.1) (Ts := sp_AW) ⟨hx, hb, hml, hown, hts⟩ hM (vx_cwSW (ws' := sp_AW) _ hts hgood (by unfold sp_ws sp_code; rw [if_neg hhh]) rfl rfl ⟨hmh.1, hmh.2, hpar⟩ ⟨by show e'.2.2.2.2.2.2.2.1 + 1 ≤ R.frames; omega, by show 8 + (e'.2.2.1 + 11) + e'.2.2.2.2.2.2.2.2.1 ≤ R.locals; omega⟩) ⟨sp_Pc_blind, sp_Pc_at hS hC hR hA⟩ rfl hlen hls hst (by show 2 * 0 + _ ≤ 8; rw [Nat.mul_zero, Nat.zero_add]; exact hsum) hdg ⟨hrc, hrs⟩) hS kx kk
/-- a constructor's call -/
theorem sp_goI (IH : sp_Snd D dA A G n) {y pc idx : Nat} {e e' : sp_E} {st rest : List Value} {M M1 : sp_M} {v1 : Option Value} {b : Nat} {As : List Value} {ls : Array Slot} (hlt : l.stackTraces = false) (X : sp_cx p s m args meth c e.2.1 D dA A G e.2.2.2.2.2.1 (decide (e.2.2.2.2.2.2.2.2.2 = 2))) (hml : c.maxLocals = e.2.2.1) (hfr : e.2.2.2.2.2.2.2.1 ≤ R.frames) (hlo : e.2.2.2.2.2.2.2.2.1 ≤ R.locals) (hS : va_S A s.heap H locs) (hR : sp_rel D dA A M H) (hls : ls.size = e.2.2.1) (hdg : decode e.2.1 pc = .ok (.invokespecial idx, 3))
    (hy : (sp_fd sp_caT e.2.2.2.2.2.1 idx).or (sp_fd sp_cnT e.2.2.2.2.2.1 idx) = some y) (he' : sp_T0[y]? = some e') (hk : e'.2.2.2.2.2.2.2.2.2 = 2) (hhh : e'.2.2.2.2.1 = []) (hfit : sp_fits e e' = true) (hst : st = As.reverse ++ .ref b :: rest) (hlen : As.length = e'.2.2.2.2.2.2.1) (hsum : sp_sum rest ≤ 8) (hea : (sp_ea (.ref b :: As)).length ≤ e'.2.2.1) (hex : sp_exec G n y 0 (sp_ent (sp_ml y) (.ref b :: As)) [] M = some (.inl v1, M1))
    (hrc : cells + (M1.2.1 - M.2.1) ≤ R.cells) (hrs : slots + (M1.2.2.1 - M.2.2.1) ≤ R.slots)
    (kk : ∀ (H1 : Heap) (locs1 : List Loc), sp_rel D dA A M1 H1 → va_S A s.heap H1 locs1 → W p l e0 R s m args below meth c H1 locs1 (cells + (M1.2.1 - M.2.1)) (slots + (M1.2.2.1 - M.2.2.1)) Q (F0 m (pc + 3) ls (v1.toList ++ rest))) : W p l e0 R s m args below meth c H locs cells slots Q (F0 m pc ls st) := by
  obtain ⟨hx, hb, hown, hts, hC, -, hA⟩ := X
  obtain ⟨hT, hmem⟩ := sp_T_get he'
  obtain ⟨⟨-, hmh⟩, hpar, hcl, hkind⟩ := sp_T_ok e' hmem
  obtain ⟨hname, hret⟩ := hkind hk
  obtain ⟨f1, f2⟩ := sp_fits_of hfit
  have hnm : sp_nm y = e'.1 := by unfold sp_nm; rw [hT]
  have hkd : e' ∈ sp_T0.filter (fun e => decide (e.2.2.2.2.2.2.2.2.2 ≠ 1)) := List.mem_filter.mpr ⟨hmem, by rw [hk]; decide⟩
  have hinst : (Cond.instanceMethod e'.1).before args s = true := hts _ (sp_T_inst _ (List.mem_map.mpr ⟨e', hkd, rfl⟩))
  have hini : (Cond.initialized e'.1.cls).before args s = true := hts _ (sp_T_ini _ (List.mem_map.mpr ⟨e', hmem, rfl⟩))
  have hgood : GoodIn sp_AW (sp_ws e') := sp_goodIn (sp_ws_in hmem)
  have hM := sp_metI IH he' hex hea hhh hlt
  have hw : sp_ws e' = Cond.code e'.1 e'.2.1 e'.2.2.1 none :: sp_AW := by unfold sp_ws sp_code; rw [if_pos hhh, hret]
  have hRR : (sp_rmE e' M M1).frames + 1 ≤ R.frames ∧ 8 + (e'.2.2.1 + 11) + (sp_rmE e' M M1).locals ≤ R.locals := ⟨by show e'.2.2.2.2.2.2.2.1 + 1 ≤ R.frames; omega, by show 8 + (e'.2.2.1 + 11) + e'.2.2.2.2.2.2.2.2.1 ≤ R.locals; omega⟩
  rcases Option.or_eq_some_iff.mp hy with hy | ⟨-, hy⟩
  · have hm := sp_fd_mem hy
    have hlink : (Cond.methodLink (sp_cls e.2.2.2.2.2.1) idx e'.1).before args s = true := by rw [← hnm]; exact hts _ (sp_ca_in _ (List.mem_map.mpr ⟨_, hm, rfl⟩))
    exact sp_call_endI (va_runI (bytes := e'.2.1) (maxL := e'.2.2.1) (n := e'.2.2.2.2.2.2.1) (Ts := sp_AW) ⟨hx, hb, hml, hown, hts⟩ hM ⟨callB_of _ hts hgood hw rfl rfl hini hlink ⟨hmh.1, hmh.2, hpar⟩ hRR, hname, hinst⟩ ⟨sp_Pc_blind, sp_Pc_at hS hC hR hA⟩ rfl hlen hls hst (by show 2 * 0 + _ ≤ 8; rw [Nat.mul_zero, Nat.zero_add]; exact hsum) hdg ⟨hrc, hrs⟩) hS kk
  · have hm := sp_fd_mem hy
    have hlink : va_Nw (Cond.methodLinkNest (sp_cls e.2.2.2.2.2.1) idx e'.1 "SewingPiles") s := by rw [← hnm]; exact hC.2.1 _ (sp_cn_in _ (List.mem_map.mpr ⟨_, hm, rfl⟩)) rfl
    exact sp_call_endI (va_runIN (bytes := e'.2.1) (n := e'.2.2.2.2.2.2.1) (Ts := sp_AW) ⟨hx, hb, hml, hown, hts⟩ hM ⟨va_cnB _ hts hgood hw rfl rfl hlink hini ⟨hmh.1, hmh.2, hpar⟩ hRR, hname, hinst⟩ ⟨sp_Pc_blind, sp_Pc_at hS hC hR hA⟩ rfl hlen hls hst (by show 2 * 0 + _ ≤ 8; rw [Nat.mul_zero, Nat.zero_add]; exact hsum) hdg ⟨hrc, hrs⟩) hS kk
theorem sp_ob1 : Cond.instanceMethod objectInit ∈ sp_AW := sp_ob_in _ (by simp)
theorem sp_ob2 : Cond.code objectInit ⟨#[0xb1]⟩ 1 none ∈ sp_AW := sp_ob_in _ (by simp)
theorem sp_rel_thaw {M : sp_M} (h : sp_rel D dA A M H) {H1 : Heap} (hk : ∀ q : Nat, q < H.size → H1[q]? = H[q]?) : sp_rel D dA A (none, M.2.1, M.2.2.1, M.2.2.2) H1 :=
  ⟨fun z hz => (nomatch hz), fun a e ha => ⟨(h.2 a e ha).1, (h.2 a e ha).2.kept (hk a (h.2 a e ha).2.lt)⟩⟩
/-- Object's constructor, the bits of a double or a float -/
theorem sp_goL {pc len : Nat} {e : sp_E} {st st' : List Value} {M M' : sp_M} {i : Instr} {ls : Array Slot} (X : sp_cx p s m args meth c e.2.1 D dA A G e.2.2.2.2.2.1 (decide (e.2.2.2.2.2.2.2.2.2 = 2))) (hml : c.maxLocals = e.2.2.1) (hfr : e.2.2.2.2.2.2.2.1 ≤ R.frames) (hlo : e.2.2.2.2.2.2.2.2.1 ≤ R.locals) (hS : va_S A s.heap H locs) (hR : sp_rel D dA A M H) (hls : ls.size = e.2.2.1) (hdg : decode e.2.1 pc = .ok (i, len)) (h : sp_call e i len st M = some (.inl (st', M'))) (hcr : cells ≤ R.cells ∧ slots ≤ R.slots)
    (kk : ∀ (H1 : Heap) (locs1 : List Loc), sp_rel D dA A M' H1 → va_S A s.heap H1 locs1 → W p l e0 R s m args below meth c H1 locs1 cells slots Q (F0 m (pc + 3) ls st')) : W p l e0 R s m args below meth c H locs cells slots Q (F0 m pc ls st) := by
  obtain ⟨hx, hb, hown, hts, hC, -, hA⟩ := X
  unfold sp_call at h
  split at h
  · unfold sp_calV at h
    split at h
    · cases h
    · split at h
      · cases h
      · split at h
        · obtain ⟨b, rest, hq, -⟩ := sp_recv_of h; cases hq
        · cases h
  · unfold sp_calI at h
    split at h
    · rename_i hob
      split at h
      · rename_i a rest
        split at h
        · rename_i hc
          cases h
          have hm := sp_fd_mem hob
          refine W.objInit hx hb hown (hts _ (sp_co_in _ (List.mem_map.mpr ⟨_, hm, rfl⟩))) (hts _ sp_ob1) (hts _ sp_ob2) (g := F0 m pc ls (.ref a :: _)) rfl (by rw [hml]; exact hls) rfl hdg (by omega) ?_ ?_
          · have h8 := hc.1
            have h24 := hc.2.2
            show 2 * 0 + sp_sum _ + 12 ≤ R.locals
            omega
          · exact kk H locs hR hS
        · cases h
      · cases h
    · split at h
      · cases h
      · split at h
        · cases h
        · split at h
          · obtain ⟨b, rest, hq, -⟩ := sp_recv_of h; cases hq
          · cases h
  · unfold sp_calS at h
    split at h
    · rename_i idx xo k hjd
      exact absurd (sp_fd_mem hjd) List.not_mem_nil
    · split at h
      · cases h
      · split at h
        · cases h
        · split at h <;> cases h
  · cases h
end SPF
