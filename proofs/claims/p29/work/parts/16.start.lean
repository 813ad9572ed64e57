/-! ===== the law's start: the statement's premises are the abstract machine's ===== -/
section SPH
theorem sp_nw_tabs {w : Cond} (h : sp_nwOK w = true) : w.onTables = true := by cases w <;> first | rfl | (exfalso; simp [sp_nwOK] at h)
theorem sp_str_ref {s : State} {a : Array Value} {k : Nat} {tx : String} (h1 : (Cond.stringRef RX5 k tx).before a s = true) (h2 : (Cond.exactly (.string RX5 k) "java/lang/String").before a s = true) : ∃ q, vk_R RX5 k tx q s := by
  obtain ⟨q, hq⟩ : ∃ q, (Term.string RX5 k).eval a s none [] s = some (.ref q) := by
    obtain ⟨q, _, _, _, hq, -⟩ := Cond.exactly_spec h2
    exact ⟨q, hq⟩
  exact ⟨q, vk_R.of h1 hq⟩
theorem sp_arr {s : State} {a : Array Value} {ty : FieldType} (h : (Cond.arrayClass ty).before a s = true) : ∃ cA, ArrOfT s cA ty ∧ s.vm.findClass ("[" ++ ty.toString) = some cA := by
  obtain ⟨cA, kA, comp, h1, h2, h3⟩ := Cond.arrayClass_spec h
  exact ⟨cA, fun n z => ⟨(fun k h => by cases h), kA, h2, comp, h3⟩, h1⟩
theorem sp_lays_tbl {n : Nat} {w : Cond} (h : w ∈ sp_AW) : w ∈ lw_tbl := (List.mem_filter.mp h).1
/-- what the law's start gives -/
theorem sp_start {s : State} {b L : Nat} {xs : Nat → Int32} (hts : ∀ w ∈ lw_tbl, w.before #[Value.ref b] s = true) (hX : va_X b L xs s s.heap) (hbl : b < s.heap.size) (hgv : (Jvm.Cond.and given_1 narrow_1).before #[Value.ref b] s = true) :
    ∃ (D : va_G) (dA : Nat → ClassId) (t1 t2 : Nat), t1 < s.heap.size ∧ t2 < s.heap.size ∧ sp_ctx D dA (fun q => s.heap.size ≤ q) (b, L, xs, t1, t2) s s.heap := by
  have hs := flat_of_before _ hgv
  have hA : ∀ a : Nat, a < s.heap.size → ¬ s.heap.size ≤ a := fun a h => Nat.not_le.mpr h
  have hin : ∀ ci, ci < 6 → ∀ w ∈ u_ws (sp_cls ci) (sp_Tf ci) (sp_N ci), w ∈ lw_tbl := fun ci h w hw => (List.mem_filter.mp ((sp_cl h).2.1 w hw)).1
  obtain ⟨c0, i0, k0⟩ := u_known (C := sp_cls 0) (T := sp_Tf 0) (N := sp_N 0) (n := 2) hts (hin 0 (by decide)) (hts _ (by decide +kernel))
  obtain ⟨c1, i1, k1⟩ := u_known (C := sp_cls 1) (T := sp_Tf 1) (N := sp_N 1) (n := 2) hts (hin 1 (by decide)) (hts _ (by decide +kernel))
  obtain ⟨c2, i2, k2⟩ := u_known (C := sp_cls 2) (T := sp_Tf 2) (N := sp_N 2) (n := 2) hts (hin 2 (by decide)) (hts _ (by decide +kernel))
  obtain ⟨c3, i3, k3⟩ := u_known (C := sp_cls 3) (T := sp_Tf 3) (N := sp_N 3) (n := 15) hts (hin 3 (by decide)) (hts _ (by decide +kernel))
  obtain ⟨c4, i4, k4⟩ := u_known (C := sp_cls 4) (T := sp_Tf 4) (N := sp_N 4) (n := 4) hts (hin 4 (by decide)) (hts _ (by decide +kernel))
  obtain ⟨c5, i5, k5⟩ := u_known (C := sp_cls 5) (T := sp_Tf 5) (N := sp_N 5) (n := 6) hts (hin 5 (by decide)) (hts _ (by decide +kernel))
  obtain ⟨a0, r0, f0⟩ := sp_arr (ty := .int) (hts _ (by decide +kernel))
  obtain ⟨a1, r1, f1⟩ := sp_arr (ty := .boolean) (hts _ (by decide +kernel))
  obtain ⟨a2, r2, f2⟩ := sp_arr (ty := .char) (hts _ (by decide +kernel))
  have hao : (Cond.arrayOver (.object RX3)).before #[Value.ref b] s = true := hts _ (by decide +kernel)
  have haoa : (Cond.arrayOver (.array .int)).before #[Value.ref b] s = true := hts _ (by decide +kernel)
  obtain ⟨m4, a4, kk4, g41, -, g42, g43, g44⟩ := Cond.arrayOver_spec hao
  obtain ⟨m5, a5, kk5, g51, -, g52, g53, g54⟩ := sp_overB haoa
  have hK : va_K (fun k => if k = 0 then c0 else if k = 1 then c1 else if k = 2 then c2 else if k = 3 then c3 else if k = 4 then c4 else c5, fun k => if k = 0 then i0 else if k = 1 then i1 else if k = 2 then i2 else if k = 3 then i3 else if k = 4 then i4 else i5) vwCl (sp_tys (fun k => if k = 0 then a0 else if k = 1 then a1 else if k = 2 then a2 else if k = 3 then a0 else if k = 4 then a4 else a5)) s := by
    refine ⟨fun k q hq => ?_, fun k q hq => ?_⟩
    · match k, hq with
      | 0, hq => cases hq; exact k0
      | 1, hq => cases hq; exact k1
      | 2, hq => cases hq; exact k2
      | 3, hq => cases hq; exact k3
      | 4, hq => cases hq; exact k4
      | 5, hq => cases hq; exact k5
      | k + 6, hq => simp [vwCl] at hq
    · match k, hq with
      | 0, hq => cases hq; exact ⟨r0, f0⟩
      | 1, hq => cases hq; exact ⟨r1, f1⟩
      | 2, hq => cases hq; exact ⟨r2, f2⟩
      | 3, hq => cases hq; exact ⟨r0, f0⟩
      | 4, hq => cases hq; exact ⟨fun n z => ⟨(fun k h => by cases h), kk4, g42, m4, g43⟩, kk4, m4, g42, g43, g41, g44⟩
      | 5, hq => cases hq; exact ⟨fun n z => ⟨(fun k h => by cases h), kk5, g52, m5, g53⟩, g54⟩
      | k + 6, hq => simp [sp_tys] at hq
  obtain ⟨t1, e1, T1⟩ := va_Tof (ty := .int) (N := 3) (f := fun j => .int (sp_f1 0 j)) (A := fun q => s.heap.size ≤ q) (tm := .static RX5 "LEAST_SETTINGS" "[I") (by decide) (hs _ (by decide +kernel)) (va_eqt (hs _ (by decide +kernel))) (fun j hj => by
    match j, hj with
    | 0, _ => exact va_eqt (hs _ (by decide +kernel))
    | 1, _ => exact va_eqt (hs _ (by decide +kernel))
    | 2, _ => exact va_eqt (hs _ (by decide +kernel))) hA
  obtain ⟨t2, e2, T2⟩ := va_Tof (ty := .int) (N := 3) (f := fun j => .int (sp_f1 1 j)) (A := fun q => s.heap.size ≤ q) (tm := .static RX5 "MOST_SETTINGS" "[I") (by decide) (hs _ (by decide +kernel)) (va_eqt (hs _ (by decide +kernel))) (fun j hj => by
    match j, hj with
    | 0, _ => exact va_eqt (hs _ (by decide +kernel))
    | 1, _ => exact va_eqt (hs _ (by decide +kernel))
    | 2, _ => exact va_eqt (hs _ (by decide +kernel))) hA
  have lt1 : t1 < s.heap.size := by obtain ⟨cell, h, -⟩ := T1; exact (Array.getElem?_eq_some_iff.mp h).1
  have lt2 : t2 < s.heap.size := by obtain ⟨cell, h, -⟩ := T2; exact (Array.getElem?_eq_some_iff.mp h).1
  refine ⟨_, _, t1, t2, lt1, lt2, hK, fun w hw ho => va_tabs (sp_nw_tabs ho) rfl (hts w hw), va_AO.of hao, haoa, ?_, ?_, vx_Zqof (hts _ (by decide +kernel)) (hts _ (by decide +kernel)) (hs _ (by decide +kernel)) hA, vx_Zqof (hts _ (by decide +kernel)) (hts _ (by decide +kernel)) (hs _ (by decide +kernel)) hA,
    va_Zof (hts _ (by decide +kernel)) (hts _ (by decide +kernel)) e1 hA, va_Zof (hts _ (by decide +kernel)) (hts _ (by decide +kernel)) e2 hA, T1, T2, hX, hbl, hA b hbl⟩
  · exact fun _ _ _ _ _ => trivial
  · have h1 : ∀ q ∈ sp_thT, Cond.stringRef RX5 q.2.2.2.2.1 q.2.2.2.2.2.2.2 ∈ lw_tbl := by decide +kernel
    have h2 : ∀ q ∈ sp_thT, Cond.exactly (.string RX5 q.2.2.2.2.1) "java/lang/String" ∈ flatC (Jvm.Cond.and given_1 narrow_1) := by decide +kernel
    exact fun q hq => sp_str_ref (hts _ (h1 q hq)) (hs _ (h2 q hq))
end SPH
