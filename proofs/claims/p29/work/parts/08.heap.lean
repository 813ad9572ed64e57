/-! ===== the abstract machine's rows over cells ===== -/
def sp_f1 (k j : Nat) : Int32 := if k = 0 then (if j = 0 then 2 else if j = 1 then 0 else 1) else (if j = 0 then 99 else if j = 1 then 2 else 20)
def sp_ex : List String := ["java/lang/IllegalStateException", "java/lang/IllegalArgumentException", "java/lang/IndexOutOfBoundsException"]
/-- what the tables and the cells that are never written say, at every state of the run -/
def sp_ctx (D : va_G) (dA : Nat → ClassId) (A : Nat → Prop) (G : sp_G) (U : State) (H : Heap) : Prop :=
  va_K D vwCl (sp_tys dA) U ∧ (∀ w ∈ lw_tbl, sp_nwOK w = true → va_Nw w U) ∧ va_AO RX3 U ∧ sp_AOA .int U ∧
  (∀ E ∈ sp_ex, ∀ E' ∈ sp_ex, E ≠ E' → True) ∧ (∀ q ∈ sp_thT, ∃ a, vk_R RX5 q.2.2.2.2.1 q.2.2.2.2.2.2.2 a U) ∧
  vx_Zq Bundle.tN "UNASSIGNED_STACK" Bundle.steD A U H ∧ vx_Zq Bundle.tN "SUPPRESSED_SENTINEL" Bundle.listD A U H ∧
  va_Z RX5 "LEAST_SETTINGS" "[I" (.ref G.2.2.2.1) A U H ∧ va_Z RX5 "MOST_SETTINGS" "[I" (.ref G.2.2.2.2) A U H ∧
  va_T .int G.2.2.2.1 3 (fun j => .int (sp_f1 0 j)) A U H ∧ va_T .int G.2.2.2.2 3 (fun j => .int (sp_f1 1 j)) A U H ∧
  va_X G.1 G.2.1 G.2.2.1 U H ∧ G.1 < H.size ∧ ¬ A G.1
theorem sp_nw_warm {s U : State} (hW : s.WarmedH U.vm) {w : Cond} (hw : sp_nwOK w = true) (h : va_Nw w s) : va_Nw w U := by
  cases w <;> first
    | exact va_Nw.warmF hW h
    | exact va_Nw.warmM hW h
    | exact va_Nw.warmD hW h
    | exact va_Nw.warmC hW h
    | (exfalso; simp [sp_nwOK] at hw)
theorem sp_ctx.warm {D : va_G} {dA : Nat → ClassId} {A : Nat → Prop} {G : sp_G} {s U : State} {H : Heap} (hW : s.WarmedH U.vm) (h : sp_ctx D dA A G s H) : sp_ctx D dA A G U H := by
  obtain ⟨h1, h2, h3, h4, h5, h6, h7, h8, h9, h10, h11, h12, h13, h14, h15⟩ := h
  exact ⟨va_K.moved hW.alike h1, fun w hw ho => sp_nw_warm hW ho (h2 w hw ho), va_AO.moved hW.alike h3, sp_AOA.moved hW.alike h4, h5, fun q hq => (h6 q hq).imp fun a ha => vk_R.warm hW ha,
    vx_Zq.moved hW.alike h7, vx_Zq.moved hW.alike h8, va_Z.moved hW.alike h9, va_Z.moved hW.alike h10, va_T.moved hW.alike h11, va_T.moved hW.alike h12, va_X.moved hW.alike h13, h14, h15⟩
theorem sp_ctx.kept {D : va_G} {dA : Nat → ClassId} {A : Nat → Prop} {G : sp_G} {U : State} {H H1 : Heap} (h : sp_ctx D dA A G U H) (hz : H.size ≤ H1.size) (hq : ∀ q : Nat, q < H.size → ¬ A q → H1[q]? = H[q]?) : sp_ctx D dA A G U H1 := by
  obtain ⟨h1, h2, h3, h4, h5, h6, h7, h8, h9, h10, h11, h12, h13, h14, h15⟩ := h
  exact ⟨h1, h2, h3, h4, h5, h6, h7.kept hq, h8.kept hq, h9.kept hq, h10.kept hq, h11.kept hq, h12.kept hq, h13.kept (hq _ h14 h15), Nat.lt_of_lt_of_le h14 hz, h15⟩
/-- the same state by another name: frames may differ -/
theorem sp_ctx.alike {D : va_G} {dA : Nat → ClassId} {A : Nat → Prop} {G : sp_G} {U V : State} {H : Heap} (hv : V.vm = U.vm) (h : sp_ctx D dA A G U H) : sp_ctx D dA A G V H :=
  sp_ctx.warm (by rw [hv]; exact State.WarmedH.refl U) h
theorem sp_cl {ci : Nat} (h : ci < 6) : vwCl[ci]? = some (sp_cls ci, sp_Tf ci, sp_N ci) ∧ (∀ w ∈ u_ws (sp_cls ci) (sp_Tf ci) (sp_N ci), w ∈ sp_AW) ∧ (∀ k, k < sp_N ci → parseFieldDescriptor (sp_Tf ci k).2.2.1 = some (sp_ty ci k)) ∧ (∀ a, a < sp_N ci → ∀ b, b < sp_N ci → a ≠ b → (sp_Tf ci a).2.1 ≠ (sp_Tf ci b).2.1) := by
  match ci, h with
  | 0, _ => exact ⟨rfl, sp_lay0, tyX0_ok, nmX0⟩
  | 1, _ => exact ⟨rfl, sp_lay1, tyX1_ok, nmX1⟩
  | 2, _ => exact ⟨rfl, sp_lay2, tyX2_ok, nmX2⟩
  | 3, _ => exact ⟨rfl, sp_lay3, tyX3_ok, nmX3⟩
  | 4, _ => exact ⟨rfl, sp_lay4, tyX4_ok, nmX4⟩
  | 5, _ => exact ⟨rfl, sp_lay5, tyX5_ok, nmX5⟩
theorem sp_Tf_own : ∀ ci, ci < 6 → ∀ k, k < sp_N ci → (sp_Tf ci k).1 = sp_cls ci := by decide +kernel
def sp_fit (ty : FieldType) (v : Value) : Bool := match ty, v with
  | .int, .int _ => true
  | .long, .long _ => true
  | .boolean, .int x => decide (x = 0 ∨ x = 1)
  | .object _, .ref _ => true
  | .array _, .ref _ => true
  | _, _ => false
theorem sp_fit_ok {ty : FieldType} {v : Value} (h : sp_fit ty v = true) : narrow ty v = v ∧ fits ty v = true := by
  unfold sp_fit at h
  split at h
  · exact ⟨rfl, rfl⟩
  · exact ⟨rfl, rfl⟩
  · rcases of_decide_eq_true h with rfl | rfl <;> decide
  · exact ⟨rfl, rfl⟩
  · exact ⟨rfl, rfl⟩
  · cases h
def sp_in (j : Int32) (n : Nat) : Bool := decide (¬ (j < 0 ∨ n ≤ j.toNatClampNeg))
theorem sp_in_of {j : Int32} {n : Nat} (h : sp_in j n = true) : vp_in j n := by unfold sp_in at h; unfold vp_in; exact of_decide_eq_true h
def sp_getf (c idx a : Nat) (st : List Value) (M : sp_M) : Option (List Value × sp_M) := match (sp_fd sp_flT c idx).or (sp_fd sp_fnT c idx), M.2.2.2 a with
  | some (ci, k), some (.inr (cj, fs)) => if cj = ci then (fs[k]?).map (fun v => (v :: st, M)) else none
  | _, _ => none
def sp_set (M : sp_M) (a : Nat) (e : va_E) : sp_M := (M.1, M.2.1, M.2.2.1, sp_up M.2.2.2 a e)
def sp_putf (c : Nat) (ini : Bool) (idx : Nat) (v : Value) (a : Nat) (st : List Value) (M : sp_M) : Option (List Value × sp_M) := match sp_fd sp_flT c idx, M.2.2.2 a with
  | some (ci, k), some (.inr (cj, fs)) => if cj = ci ∧ k < fs.length ∧ sp_fit (sp_ty ci k) v = true ∧ ((sp_Tf ci k).2.2.2 = true → ini = true ∧ ci = c) then some (st, sp_set M a (.inr (ci, fs.set k v))) else none
  | _, _ => none
def sp_ild (G : sp_G) (k : Nat) (j : Int32) (a : Nat) (st : List Value) (M : sp_M) : Option (List Value × sp_M) := match M.2.2.2 a with
  | some (.inl (q, n, .inl f)) => if q = k ∧ sp_in j n = true then some (.int (f j.toNatClampNeg) :: st, M) else none
  | some _ => none
  | none => if k = 0 then (if a = G.1 then (if sp_in j G.2.1 = true then some (.int (G.2.2.1 j.toNatClampNeg) :: st, M) else none) else if a = G.2.2.2.1 then (if sp_in j 3 = true then some (.int (sp_f1 0 j.toNatClampNeg) :: st, M) else none) else if a = G.2.2.2.2 then (if sp_in j 3 = true then some (.int (sp_f1 1 j.toNatClampNeg) :: st, M) else none) else none) else none
def sp_ist (k : Nat) (nar : Int32 → Int32) (x j : Int32) (a : Nat) (st : List Value) (M : sp_M) : Option (List Value × sp_M) := match M.2.2.2 a with
  | some (.inl (q, n, .inl f)) => if q = k ∧ sp_in j n = true then some (st, sp_set M a (.inl (k, n, .inl (upd f j.toNatClampNeg (nar x))))) else none
  | _ => none
def sp_lld (_ : Int32) (_ : Nat) (_ : List Value) (_ : sp_M) : Option (List Value × sp_M) := none
def sp_lst (_ : Int64) (_ : Int32) (_ : Nat) (_ : List Value) (_ : sp_M) : Option (List Value × sp_M) := none
def sp_ald (j : Int32) (a : Nat) (st : List Value) (M : sp_M) : Option (List Value × sp_M) := match M.2.2.2 a with
  | some (.inl (q, n, .inr (.inr (.inr (.inr f))))) => if (q = 4 ∨ q = 5) ∧ sp_in j n = true then some (va_rf (f j.toNatClampNeg) :: st, M) else none
  | _ => none
def sp_ast (v : Nat) (j : Int32) (a : Nat) (st : List Value) (M : sp_M) : Option (List Value × sp_M) := match M.2.2.2 a, M.2.2.2 v with
  | some (.inl (q, n, .inr (.inr (.inr (.inr f))))), some (.inr (3, _)) => if q = 4 ∧ sp_in j n = true then some (st, sp_set M a (.inl (4, n, .inr (.inr (.inr (.inr (va_up f j.toNatClampNeg (some v)))))))) else none
  | _, _ => none
def sp_len (G : sp_G) (a : Nat) (st : List Value) (M : sp_M) : Option (List Value × sp_M) := match M.2.2.2 a with
  | some (.inl (q, n, _)) => if q < 6 then some (.int (Int32.ofNat n) :: st, M) else none
  | some _ => none
  | none => if a = G.1 then some (.int (Int32.ofNat G.2.1) :: st, M) else none
def sp_df (ci : Nat) : List Value := (List.range (sp_N ci)).map (fun j => defaultValue (sp_ty ci j))
def sp_new (c idx : Nat) (st : List Value) (M : sp_M) : Option (List Value × sp_M) := match sp_fd sp_nwT c idx, M.1 with
  | some ci, some z => some (.ref z :: st, (some (z + 1), M.2.1 + 1, M.2.2.1 + sp_N ci, sp_up M.2.2.2 z (.inr (ci, sp_df ci))))
  | _, _ => none
def sp_nea (at' : ArrayType) (n : Int32) (st : List Value) (M : sp_M) : Option (List Value × sp_M) := match M.1 with
  | none => none
  | some z => if ¬ n < 0 ∧ n.toNatClampNeg ≤ 65536 then (match at' with
    | .int => some (.ref z :: st, (some (z + 1), M.2.1 + 1, M.2.2.1 + n.toNatClampNeg, sp_up M.2.2.2 z (.inl (0, n.toNatClampNeg, .inl (fun _ => 0)))))
    | .boolean => some (.ref z :: st, (some (z + 1), M.2.1 + 1, M.2.2.1 + n.toNatClampNeg, sp_up M.2.2.2 z (.inl (1, n.toNatClampNeg, .inl (fun _ => 0)))))
    | .char => some (.ref z :: st, (some (z + 1), M.2.1 + 1, M.2.2.1 + n.toNatClampNeg, sp_up M.2.2.2 z (.inl (2, n.toNatClampNeg, .inl (fun _ => 0)))))
    | _ => none) else none
def sp_neq (c idx : Nat) (n : Int32) (st : List Value) (M : sp_M) : Option (List Value × sp_M) := match sp_fd sp_anT c idx, M.1 with
  | some _, some z => if ¬ n < 0 ∧ n.toNatClampNeg ≤ 65536 then some (.ref z :: st, (some (z + 1), M.2.1 + 1, M.2.2.1 + n.toNatClampNeg, sp_up M.2.2.2 z (.inl (4, n.toNatClampNeg, .inr (.inr (.inr (.inr (fun _ => none)))))))) else none
  | _, _ => none
/-- a row of rows: the outer one at z, the inner ones behind it -/
def sp_mup (h : sp_H) (z n k : Nat) : sp_H := fun q => if q = z then some (.inl (5, n, .inr (.inr (.inr (.inr (fun i => if i < n then some (z + 1 + i) else none)))))) else if z < q ∧ q < z + 1 + n then some (.inl (0, k, .inl (fun _ => 0))) else h q
def sp_nem (c idx : Nat) (k n : Int32) (st : List Value) (M : sp_M) : Option (List Value × sp_M) := match sp_fd sp_muT c idx, M.1 with
  | some _, some z => if ¬ n < 0 ∧ n.toNatClampNeg ≤ 65536 ∧ ¬ k < 0 ∧ k.toNatClampNeg ≤ 65536 then some (.ref z :: st, (some (z + 1 + n.toNatClampNeg), M.2.1 + 1 + n.toNatClampNeg, M.2.2.1 + n.toNatClampNeg + n.toNatClampNeg * k.toNatClampNeg, sp_mup M.2.2.2 z n.toNatClampNeg k.toNatClampNeg)) else none
  | _, _ => none
def sp_hp (G : sp_G) (c : Nat) (ini : Bool) (i : Instr) (len : Nat) (st : List Value) (M : sp_M) : Option (List Value × sp_M) := match i, len, st with
  | .getfield idx, 3, .ref a :: st => sp_getf c idx a st M
  | .putfield idx, 3, v :: .ref a :: st => sp_putf c ini idx v a st M
  | .getstatic idx, 3, st => (sp_fd sp_stT c idx).map (fun k => (.ref (if k = 0 then G.2.2.2.1 else G.2.2.2.2) :: st, M))
  | .arraylength, 1, .ref a :: st => sp_len G a st M
  | .iaload, 1, .int j :: .ref a :: st => sp_ild G 0 j a st M
  | .baload, 1, .int j :: .ref a :: st => sp_ild G 1 j a st M
  | .caload, 1, .int j :: .ref a :: st => sp_ild G 2 j a st M
  | .laload, 1, .int j :: .ref a :: st => sp_lld j a st M
  | .aaload, 1, .int j :: .ref a :: st => sp_ald j a st M
  | .iastore, 1, .int x :: .int j :: .ref a :: st => sp_ist 0 (fun x => x) x j a st M
  | .bastore, 1, .int x :: .int j :: .ref a :: st => sp_ist 1 (vp_nar .boolean) x j a st M
  | .castore, 1, .int x :: .int j :: .ref a :: st => sp_ist 2 (vp_nar .char) x j a st M
  | .lastore, 1, .long x :: .int j :: .ref a :: st => sp_lst x j a st M
  | .aastore, 1, .ref v :: .int j :: .ref a :: st => sp_ast v j a st M
  | .new idx, 3, st => sp_new c idx st M
  | .newarray t, 2, .int n :: st => sp_nea t n st M
  | .anewarray idx, 3, .int n :: st => sp_neq c idx n st M
  | .multianewarray idx 2, 4, .int k :: .int n :: st => sp_nem c idx k n st M
  | _, _, _ => none
