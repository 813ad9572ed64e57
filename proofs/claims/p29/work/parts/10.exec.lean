/-! ===== the abstract machine whole ===== -/
def sp_ctT : List (Nat × Nat × String) := []
theorem sp_ct_in : ∀ w ∈ sp_ctT.map (fun q => Cond.classLink (sp_cls q.1) q.2.1 q.2.2), w ∈ sp_AW := by
  intro w hw
  simp [sp_ctT] at hw
theorem sp_ct_ex : ∀ q ∈ sp_ctT, q.2.2 ∈ sp_ex := by decide +kernel
theorem sp_hh_ok : ∀ e ∈ sp_T0, ∀ q ∈ e.2.2.2.2.1, e.2.2.2.2.2.1 = 7 ∧ (sp_fd sp_ctT 7 q.2.2.2).isSome = true ∧ q.2.2.2 ≠ 0 := by decide +kernel
theorem sp_th_ex : ∀ q ∈ sp_thT, q.2.2.1 ∈ sp_ex := by decide +kernel
def sp_cst (c : Nat) (i : Instr) (len : Nat) (st : List Value) : Option (List Value) := match i, len with
  | .ldc2_w idx, 3 => match sp_fd sp_clT c idx with
    | some v => some (.long v :: st)
    | none => (sp_fd sp_cdT c idx).map (fun v => .double v :: st)
  | .ldc idx, 2 => (sp_fd sp_ciT c idx).map (fun v => .int v :: st)
  | _, _ => none
def sp_retn (ret : Option FieldType) (i : Instr) (len : Nat) (st : List Value) : Option (Option Value) := match i, len, st with
  | .ireturn, 1, [.int x] => if ret = some .int ∨ (ret = some .boolean ∧ (x = 0 ∨ x = 1)) then some (some (.int x)) else none
  | .lreturn, 1, [.long x] => if ret = some .long then some (some (.long x)) else none
  | .freturn, 1, [.float x] => if ret = some .float then some (some (.float x)) else none
  | .dreturn, 1, [.double x] => if ret = some .double then some (some (.double x)) else none
  | .return_, 1, [] => if ret = none then some none else none
  | _, _, _ => none
def sp_sum (st : List Value) : Nat := (st.map fun v => v.category).sum
/-- a call: what it comes to at once, or the method, its arguments, the stack below -/
abbrev sp_C : Type := (List Value × sp_M) ⊕ (Nat × List Value × List Value)
def sp_isC (M : sp_M) (b k : Nat) : Bool := match M.2.2.2 b with
  | some (.inr (cj, _)) => decide (cj = k)
  | _ => false
def sp_recv (y : Nat) (e : sp_E) (st : List Value) (M : sp_M) (virt : Bool) : Option sp_C := match st.drop e.2.2.2.2.2.2.1 with
  | .ref b :: rest => if (virt = true → sp_isC M b e.2.2.2.2.2.1 = true) ∧ sp_sum rest ≤ 8 ∧ (sp_ea (.ref b :: (st.take e.2.2.2.2.2.2.1).reverse)).length ≤ e.2.2.1 ∧ e.2.2.2.2.2.2.1 ≤ st.length then some (.inr (y, .ref b :: (st.take e.2.2.2.2.2.2.1).reverse, rest)) else none
  | _ => none
def sp_fits (e e' : sp_E) : Bool := decide (e'.2.2.2.2.2.2.2.1 + 1 ≤ e.2.2.2.2.2.2.2.1 ∧ 8 + (e'.2.2.1 + 11) + e'.2.2.2.2.2.2.2.2.1 ≤ e.2.2.2.2.2.2.2.2.1)
def sp_calV (e : sp_E) (idx : Nat) (st : List Value) (M : sp_M) : Option sp_C := match sp_fd sp_caT e.2.2.2.2.2.1 idx with
  | none => none
  | some y => match sp_T0[y]? with
    | none => none
    | some e' => if e'.2.2.2.2.2.2.2.2.2 = 0 ∧ sp_fits e e' = true then sp_recv y e' st M true else none
def sp_calI (e : sp_E) (idx : Nat) (st : List Value) (M : sp_M) : Option sp_C := match sp_fd sp_coT e.2.2.2.2.2.1 idx with
  | some _ => (match st with
    | .ref _ :: rest => if sp_sum rest ≤ 8 ∧ 1 ≤ e.2.2.2.2.2.2.2.1 ∧ 24 ≤ e.2.2.2.2.2.2.2.2.1 then some (.inl (rest, M)) else none
    | _ => none)
  | none => match (sp_fd sp_caT e.2.2.2.2.2.1 idx).or (sp_fd sp_cnT e.2.2.2.2.2.1 idx) with
    | none => none
    | some y => match sp_T0[y]? with
      | none => none
      | some e' => if e'.2.2.2.2.2.2.2.2.2 = 2 ∧ sp_fits e e' = true ∧ e'.2.2.2.2.1 = [] then sp_recv y e' st M false else none
def sp_calS (e : sp_E) (idx : Nat) (st : List Value) (M : sp_M) : Option sp_C := match sp_fd sp_cjT e.2.2.2.2.2.1 idx with
  | some k => (match k, st with
    | 0, .double x :: rest => if Op.cmpValue (FP.dcmp x x) CmpOp.l = 0 ∧ sp_sum rest ≤ 8 ∧ 4 ≤ e.2.2.2.2.2.2.2.1 ∧ 90 ≤ e.2.2.2.2.2.2.2.2.1 then some (.inl (.long x.toInt64 :: rest, (none, M.2.1, M.2.2.1, M.2.2.2))) else none
    | 1, .float x :: rest => if Op.cmpValue (FP.fcmp x x) CmpOp.l = 0 ∧ sp_sum rest ≤ 8 ∧ 4 ≤ e.2.2.2.2.2.2.2.1 ∧ 90 ≤ e.2.2.2.2.2.2.2.2.1 then some (.inl (.int x.toInt32 :: rest, (none, M.2.1, M.2.2.1, M.2.2.2))) else none
    | _, _ => none)
  | none => match sp_fd sp_caT e.2.2.2.2.2.1 idx with
    | none => none
    | some y => match sp_T0[y]? with
      | none => none
      | some e' => if e'.2.2.2.2.2.2.2.2.2 = 1 ∧ e'.2.2.2.2.2.1 = e.2.2.2.2.2.1 ∧ sp_fits e e' = true ∧ sp_sum (st.drop e'.2.2.2.2.2.2.1) ≤ 8 ∧ (sp_ea (st.take e'.2.2.2.2.2.2.1).reverse).length ≤ e'.2.2.1 ∧ e'.2.2.2.2.2.2.1 ≤ st.length then some (.inr (y, (st.take e'.2.2.2.2.2.2.1).reverse, st.drop e'.2.2.2.2.2.2.1)) else none
def sp_call (e : sp_E) (i : Instr) (len : Nat) (st : List Value) (M : sp_M) : Option sp_C := match i, len with
  | .invokevirtual idx, 3 => sp_calV e idx st M
  | .invokespecial idx, 3 => sp_calI e idx st M
  | .invokestatic idx, 3 => sp_calS e idx st M
  | _, _ => none
def sp_gr : Instr → Nat
  | .iload _ | .iload_n _ | .lload _ | .lload_n _ | .fload _ | .fload_n _ | .dload _ | .dload_n _ | .aload _ | .aload_n _ => 0
  | .istore _ | .istore_n _ | .lstore _ | .lstore_n _ | .fstore _ | .fstore_n _ | .dstore _ | .dstore_n _ | .astore _ | .astore_n _ | .iinc _ _ => 0
  | .ldc _ | .ldc2_w _ => 2
  | .goto _ | .ifCond _ _ | .if_icmp _ _ | .ifnull _ | .tableswitch _ _ _ _ | .lookupswitch _ _ => 3
  | .getfield _ | .putfield _ | .getstatic _ | .arraylength | .iaload | .baload | .caload | .laload | .aaload | .iastore | .bastore | .castore | .lastore | .aastore | .new _ | .newarray _ | .anewarray _ | .multianewarray _ _ => 4
  | .ireturn | .lreturn | .freturn | .dreturn | .return_ => 5
  | .invokevirtual _ | .invokespecial _ | .invokestatic _ => 6
  | _ => 1
def sp_cov (q : Nat × Nat × Nat × Nat) (pc : Nat) : Bool := decide (q.1 ≤ pc) && decide (pc < q.2.1)
/-- the handler that takes what is thrown at a place: where it begins -/
def sp_hdl (hh : List (Nat × Nat × Nat × Nat)) (pc : Nat) (E : String) : Option Nat := (hh.find? (fun q => sp_cov q pc && decide (sp_fd sp_ctT 7 q.2.2.2 = some E))).map (fun q => q.2.2.1)
def sp_hst (cc : ByteArray) (pc : Nat) : Option (Nat × Nat) := match decode cc pc with
  | .ok (.astore_n k, 1) => some ((k : Nat), 1)
  | .ok (.astore k, 2) => some (k, 2)
  | _ => none
def sp_clr (L : sp_L) (k : Nat) : sp_L := (sp_fix L k).set k none
def sp_ml (y : Nat) : Nat := match sp_T0[y]? with
  | some e => e.2.2.1
  | none => 0
def sp_kd (y : Nat) : Nat := match sp_T0[y]? with
  | some e => e.2.2.2.2.2.2.2.2.2
  | none => 0
def sp_exec (G : sp_G) : Nat → Nat → Nat → sp_L → List Value → sp_M → Option (sp_R × sp_M)
  | 0, _, _, _, _, _ => none
  | n + 1, y, pc, L, st, M => match sp_T[y]? with
    | none => none
    | some e => match sp_fd sp_thT y pc with
      | some q => if sp_sum st ≤ 8 then some (.inr q.1, (none, M.2.1 + 1, M.2.2.1 + 6, M.2.2.2)) else none
      | none => match decode e.2.1 pc with
        | .error _ => none
        | .ok (i, len) => match sp_gr i with
          | 0 => (match sp_loc i len L st with
            | none => none
            | some (L', st') => sp_exec G n y (pc + len) L' st' M)
          | 1 => (match sp_stk i len st with
            | none => none
            | some st' => sp_exec G n y (pc + len) L st' M)
          | 2 => (match sp_cst e.2.2.2.2.2.1 i len st with
            | none => none
            | some st' => sp_exec G n y (pc + len) L st' M)
          | 3 => (match sp_jmp i len pc st with
            | none => none
            | some (pc', st') => sp_exec G n y pc' L st' M)
          | 4 => (match sp_hp G e.2.2.2.2.2.1 (decide (e.2.2.2.2.2.2.2.2.2 = 2)) i len st M with
            | none => none
            | some (st', M') => sp_exec G n y (pc + len) L st' M')
          | 5 => (match sp_retn e.2.2.2.1 i len st with
            | none => none
            | some v => some (.inl v, M))
          | 6 => (match sp_call e i len st M with
            | none => none
            | some (.inl (st', M')) => sp_exec G n y (pc + 3) L st' M'
            | some (.inr (y', as, rest)) => match sp_exec G n y' 0 (sp_ent (sp_ml y') as) [] M with
              | none => none
              | some (.inl v, M1) => sp_exec G n y (pc + 3) L (v.toList ++ rest) M1
              | some (.inr E, M1) => if E ∈ sp_ex ∧ sp_kd y' ≠ 2 then (match sp_hdl e.2.2.2.2.1 pc E with
                | none => some (.inr E, M1)
                | some hp => match sp_hst e.2.1 hp with
                  | none => none
                  | some (k, ln) => if k < L.length then sp_exec G n y (hp + ln) (sp_clr L k) [] M1 else none) else none)
          | _ => none
theorem sp_call_mono {e : sp_E} {i : Instr} {len : Nat} {st st' : List Value} {M M' : sp_M} (h : sp_call e i len st M = some (.inl (st', M'))) : M'.2.1 = M.2.1 ∧ M'.2.2.1 = M.2.2.1 := by
  unfold sp_call sp_calV sp_calI sp_calS sp_recv at h
  repeat' split at h
  all_goals first | (cases h; done) | (cases h; exact ⟨rfl, rfl⟩)
theorem sp_exec_mono (G : sp_G) : ∀ (n y pc : Nat) (L : sp_L) (st : List Value) (M : sp_M) (r : sp_R) (M' : sp_M), sp_exec G n y pc L st M = some (r, M') → M.2.1 ≤ M'.2.1 ∧ M.2.2.1 ≤ M'.2.2.1 := by
  intro n
  induction n with
  | zero => intro y pc L st M r M' h; cases h
  | succ n ih =>
    intro y pc L st M r M' h
    unfold sp_exec at h
    split at h
    · cases h
    · split at h
      · split at h
        · cases h; exact ⟨Nat.le_add_right _ _, Nat.le_add_right _ _⟩
        · cases h
      · split at h
        · cases h
        · split at h
          · split at h
            · cases h
            · exact ih _ _ _ _ _ _ _ h
          · split at h
            · cases h
            · exact ih _ _ _ _ _ _ _ h
          · split at h
            · cases h
            · exact ih _ _ _ _ _ _ _ h
          · split at h
            · cases h
            · exact ih _ _ _ _ _ _ _ h
          · split at h
            · cases h
            · rename_i hh
              have h1 := sp_hp_mono hh
              have h2 := ih _ _ _ _ _ _ _ h
              exact ⟨Nat.le_trans h1.1 h2.1, Nat.le_trans h1.2 h2.2⟩
          · split at h
            · cases h
            · cases h; exact ⟨Nat.le_refl _, Nat.le_refl _⟩
          · split at h
            · cases h
            · rename_i hh
              have h1 := sp_call_mono hh
              have h2 := ih _ _ _ _ _ _ _ h
              rw [h1.1, h1.2] at h2
              exact h2
            · split at h
              · cases h
              · rename_i hh
                have h1 := ih _ _ _ _ _ _ _ hh
                have h2 := ih _ _ _ _ _ _ _ h
                exact ⟨Nat.le_trans h1.1 h2.1, Nat.le_trans h1.2 h2.2⟩
              · rename_i hh
                have h1 := ih _ _ _ _ _ _ _ hh
                split at h
                · split at h
                  · cases h; exact h1
                  · split at h
                    · cases h
                    · split at h
                      · have h2 := ih _ _ _ _ _ _ _ h
                        exact ⟨Nat.le_trans h1.1 h2.1, Nat.le_trans h1.2 h2.2⟩
                      · cases h
                · cases h
          · cases h
