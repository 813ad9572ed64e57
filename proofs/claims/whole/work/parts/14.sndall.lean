/-! ===== by induction on the rounds ===== -/
section SPF
variable {D : va_G} {dA : Nat → ClassId} {A : Nat → Prop} {G : sp_G} {n : Nat}
variable {p : Program} {l : Launch} {e0 : Env} {R : Room} {s : State} {m : MethodId} {args : Array Value} {below : List Frame} {meth : Method} {c : Code} {H : Heap} {locs : List Loc} {cells slots : Nat} {Q : State → Prop}
theorem sp_ctx_at {U : State} (hS : va_S A s.heap H locs) (hC : sp_ctx D dA A G s s.heap) (hU : U.heap = H) (hW : s.WarmedH U.vm) : sp_ctx D dA A G U U.heap := by
  rw [hU]
  exact sp_ctx.warm hW (hC.kept hS.1 hS.2.1)
theorem sp_Pc_at {as : List Value} {M : sp_M} (hS : va_S A s.heap H locs) (hC : sp_ctx D dA A G s s.heap) (hR : sp_rel D dA A M H) (hA : ∀ q, s.heap.size ≤ q → A q) : ∀ U : State, U.heap = H → s.WarmedH U.vm → sp_Pc D dA A G as M as.toArray U :=
  fun U hU hW => ⟨rfl, sp_ctx_at hS hC hU hW, by rw [hU]; exact hR, fun q hq => hA q (Nat.le_trans hS.1 (by rw [hU] at hq; exact hq))⟩
theorem sp_isC_of {M : sp_M} {b k : Nat} (h : sp_isC M b k = true) : ∃ fs, M.2.2.2 b = some (.inr (k, fs)) := by
  unfold sp_isC at h
  split at h
  · rename_i cj fs hb
    have := of_decide_eq_true h
    subst this
    exact ⟨fs, hb⟩
  · cases h
theorem sp_ci_lt : ∀ e ∈ sp_T0, e.2.2.2.2.2.2.2.2.2 = 0 → e.2.2.2.2.2.1 < 7 := by decide +kernel
theorem sp_no_hh : ∀ e ∈ sp_T0, e.2.2.2.2.2.2.2.2.2 ≠ 1 → e.2.2.2.2.1 = [] := by decide +kernel
theorem sp_recv_of {y : Nat} {e : sp_E} {st : List Value} {M : sp_M} {v : Bool} {q : sp_C} (h : sp_recv y e st M v = some q) : ∃ b rest, q = .inr (y, .ref b :: (st.take e.2.2.2.2.2.2.1).reverse, rest) ∧ st = ((st.take e.2.2.2.2.2.2.1).reverse).reverse ++ .ref b :: rest ∧ ((st.take e.2.2.2.2.2.2.1).reverse).length = e.2.2.2.2.2.2.1 ∧ (v = true → ∃ fs, M.2.2.2 b = some (.inr (e.2.2.2.2.2.1, fs))) ∧ sp_sum rest ≤ 8 ∧ (sp_ea (.ref b :: (st.take e.2.2.2.2.2.2.1).reverse)).length ≤ e.2.2.1 := by
  unfold sp_recv at h
  split at h
  · rename_i b rest hd
    split at h
    · rename_i hc
      cases h
      obtain ⟨h1, h2, h3, h4⟩ := hc
      refine ⟨b, rest, rfl, ?_, ?_, fun hv => sp_isC_of (h1 hv), h2, h3⟩
      · rw [List.reverse_reverse, ← hd, List.take_append_drop]
      · simp; omega
    · cases h
  · cases h
theorem sp_fits_of {e e' : sp_E} (h : sp_fits e e' = true) : e'.2.2.2.2.2.2.2.1 + 1 ≤ e.2.2.2.2.2.2.2.1 ∧ 8 + (e'.2.2.1 + 11) + e'.2.2.2.2.2.2.2.2.1 ≤ e.2.2.2.2.2.2.2.2.1 := of_decide_eq_true h
theorem sp_ws_in {e : sp_E} (he : e ∈ sp_T0) : ∀ w ∈ sp_ws e, w ∈ sp_AW := fun w hw => by
  rcases List.mem_cons.mp hw with rfl | hw
  · exact sp_T_code _ (List.mem_map.mpr ⟨e, he, rfl⟩)
  · exact hw
/-- a call by the receiver's class -/
theorem sp_goV (IH : sp_Snd D dA A G n) {y pc idx : Nat} {e e' : sp_E} {st rest : List Value} {M M1 : sp_M} {r1 : sp_R} {b : Nat} {As : List Value} {ls : Array Slot} (hlt : l.stackTraces = false) (X : sp_cx p s m args meth c e.2.1 D dA A G e.2.2.2.2.2.1 (decide (e.2.2.2.2.2.2.2.2.2 = 2))) (hml : c.maxLocals = e.2.2.1) (hfr : e.2.2.2.2.2.2.2.1 ≤ R.frames) (hlo : e.2.2.2.2.2.2.2.2.1 ≤ R.locals) (hS : va_S A s.heap H locs) (hR : sp_rel D dA A M H) (hls : ls.size = e.2.2.1) (hdg : decode e.2.1 pc = .ok (.invokevirtual idx, 3))
    (hy : sp_fd sp_caT e.2.2.2.2.2.1 idx = some y) (he' : sp_T0[y]? = some e') (hk : e'.2.2.2.2.2.2.2.2.2 = 0) (hfit : sp_fits e e' = true) (hst : st = As.reverse ++ .ref b :: rest) (hlen : As.length = e'.2.2.2.2.2.2.1) (hobj : ∃ fs, M.2.2.2 b = some (.inr (e'.2.2.2.2.2.1, fs))) (hsum : sp_sum rest ≤ 8) (hea : (sp_ea (.ref b :: As)).length ≤ e'.2.2.1) (hex : sp_exec G n y 0 (sp_ent (sp_ml y) (.ref b :: As)) [] M = some (r1, M1))
    (hrc : cells + (M1.2.1 - M.2.1) ≤ R.cells) (hrs : slots + (M1.2.2.1 - M.2.2.1) ≤ R.slots)
    (kx : ∀ (E : String) (ce : Cell) (q9 : Addr) (H1 : Heap) (locs1 : List Loc), r1 = .inr E → sp_rel D dA A M1 H1 → va_S A s.heap H1 locs1 → H1[q9]? = some ce → ce.vm = .none → s.vm.findClass E = some ce.cls → vx_W p l e0 R s m args below meth c H1 locs1 (cells + (M1.2.1 - M.2.1)) (slots + (M1.2.2.1 - M.2.2.1)) Q (F0 m pc ls rest) q9)
    (kk : ∀ (v : Option Value) (H1 : Heap) (locs1 : List Loc), r1 = .inl v → sp_rel D dA A M1 H1 → va_S A s.heap H1 locs1 → W p l e0 R s m args below meth c H1 locs1 (cells + (M1.2.1 - M.2.1)) (slots + (M1.2.2.1 - M.2.2.1)) Q (F0 m (pc + 3) ls (v.toList ++ rest))) : W p l e0 R s m args below meth c H locs cells slots Q (F0 m pc ls st) := by
  obtain ⟨hx, hb, hown, hts, hC, -, hA⟩ := X
  obtain ⟨hT, hmem⟩ := sp_T_get he'
  obtain ⟨⟨-, hmh⟩, hpar, hcl, -⟩ := sp_T_ok e' hmem
  have hhh : e'.2.2.2.2.1 = [] := sp_no_hh e' hmem (by omega)
  obtain ⟨f1, f2⟩ := sp_fits_of hfit
  obtain ⟨fs, hfs⟩ := hobj
  have hm := sp_fd_mem hy
  have hnm : sp_nm y = e'.1 := by unfold sp_nm; rw [hT]
  have hlink : Cond.methodLink (sp_cls e.2.2.2.2.2.1) idx e'.1 ∈ sp_AW := by rw [← hnm]; exact sp_ca_in _ (List.mem_map.mpr ⟨_, hm, rfl⟩)
  have hkd : e' ∈ sp_T0.filter (fun e => decide (e.2.2.2.2.2.2.2.2.2 ≠ 1)) := List.mem_filter.mpr ⟨hmem, by rw [hk]; decide⟩
  have hkd0 : e' ∈ sp_T0.filter (fun e => decide (e.2.2.2.2.2.2.2.2.2 = 0)) := List.mem_filter.mpr ⟨hmem, by rw [hk]; decide⟩
  have hgood : GoodIn sp_AW (wsV (sp_cls e.2.2.2.2.2.1) idx e'.1.cls e'.1 (sp_ws e')) := sp_goodIn fun w hw => by
    unfold wsV at hw
    rcases List.mem_append.mp hw with hw | hw
    · simp only [List.mem_cons, List.not_mem_nil, or_false] at hw
      rcases hw with rfl | rfl | rfl | rfl
      · exact hlink
      · exact sp_T_inst _ (List.mem_map.mpr ⟨e', hkd, rfl⟩)
      · exact sp_T_sel _ (List.mem_map.mpr ⟨e', hkd0, rfl⟩)
      · exact sp_T_ini _ (List.mem_map.mpr ⟨e', hmem, rfl⟩)
    · exact sp_ws_in hmem w hw
  have hM := sp_met IH he' hex hea hlt
  have c1 := (sp_cl (sp_ci_lt e' hmem hk)).1
  have hrecv := va_recv hC.1 (sp_at1 (hR.2 b _ hfs).2) (ci := e'.2.2.2.2.2.1) (q0 := 0) c1 rfl
  rw [show (sp_cls e'.2.2.2.2.2.1, sp_Tf e'.2.2.2.2.2.1, sp_N e'.2.2.2.2.2.1).1 = e'.1.cls from hcl.symm] at hrecv
  refine sp_call_end (vx_runV (bytes := e'.2.1) (maxL := e'.2.2.1) (ret := e'.2.2.2.1) (n := e'.2.2.2.2.2.2.1) (Ts := sp_AW) ⟨hx, hb, hml, hown, hts⟩ hM (cwV (C := e'.1.cls) (ws' := sp_AW) _ hts hgood (by unfold sp_ws sp_code; rw [if_pos hhh]) rfl rfl ⟨rfl, hmh.1, hmh.2, hpar⟩ ⟨by show e'.2.2.2.2.2.2.2.1 + 1 ≤ R.frames; omega, by show 8 + (e'.2.2.1 + 11) + e'.2.2.2.2.2.2.2.2.1 ≤ R.locals; omega⟩) ⟨sp_Pc_blind, hrecv, sp_Pc_at hS hC hR hA⟩ rfl hlen hls hst (by show 2 * 0 + _ ≤ 8; rw [Nat.mul_zero, Nat.zero_add]; exact hsum) hdg ⟨hrc, hrs⟩) hS kx kk
end SPF
