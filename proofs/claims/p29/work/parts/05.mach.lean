/-! ===== an abstract machine: one function that runs a method's bytecode over cells that are plain values; every row of the proofs behind the next part speaks of it alone ===== -/
abbrev sp_H : Type := Nat → Option va_E
abbrev sp_M : Type := Option Nat × Nat × Nat × sp_H
abbrev sp_L : Type := List (Option Value)
abbrev sp_R : Type := Option Value ⊕ String
abbrev sp_G : Type := Nat × Nat × (Nat → Int32) × Nat × Nat
def sp_up (h : sp_H) (a : Nat) (e : va_E) : sp_H := fun q => if q = a then some e else h q
def sp_fd {α : Type} (T : List (Nat × Nat × α)) (c i : Nat) : Option α := (T.find? (fun q => q.1 == c && q.2.1 == i)).map (fun q => q.2.2)
theorem sp_fd_mem {α : Type} {T : List (Nat × Nat × α)} {c i : Nat} {x : α} (h : sp_fd T c i = some x) : (c, i, x) ∈ T := by
  unfold sp_fd at h
  obtain ⟨⟨a, b, y⟩, h1, h2⟩ := Option.map_eq_some_iff.mp h
  have h3 := List.find?_some h1
  have h4 := List.mem_of_find?_eq_some h1
  simp only [Bool.and_eq_true, beq_iff_eq] at h3
  obtain ⟨rfl, rfl⟩ := h3
  have h5 : y = x := h2
  subst h5
  exact h4
-- locals
def sp_ld (L : sp_L) (k : Nat) : Option Value := (L[k]?).join
theorem sp_ld_iff {L : sp_L} {k : Nat} {v : Value} : sp_ld L k = some v ↔ L[k]? = some (some v) := by
  unfold sp_ld
  cases h : L[k]? with
  | none => simp
  | some o => simp
def sp_fix (L : sp_L) (i : Nat) : sp_L := match i with
  | 0 => L
  | j + 1 => match sp_ld L j with
    | some w => if w.category = 2 then L.set j none else L
    | none => L
def sp_s1 (L : sp_L) (i : Nat) (v : Value) : Option sp_L := if i < L.length then some ((sp_fix L i).set i (some v)) else none
def sp_s2 (L : sp_L) (i : Nat) (v : Value) : Option sp_L := if i + 1 < L.length then some (((sp_fix L i).set (i + 1) none).set i (some v)) else none
theorem sp_fix_len (L : sp_L) (i : Nat) : (sp_fix L i).length = L.length := by
  unfold sp_fix
  split
  · rfl
  · split
    · split <;> simp
    · rfl
theorem sp_fix_ld {L : sp_L} {i j : Nat} {w : Value} (hj : j ≠ i) (h : sp_ld (sp_fix L i) j = some w) : sp_ld L j = some w ∧ ¬ (j + 1 = i ∧ w.category = 2) := by
  unfold sp_fix at h
  split at h
  · exact ⟨h, fun q => by omega⟩
  · rename_i k
    split at h
    · rename_i v hv
      split at h
      · rename_i hc
        rw [sp_ld_iff, List.getElem?_set] at h
        split at h
        · split at h <;> simp at h
        · rename_i hne
          exact ⟨sp_ld_iff.mpr h, fun q => by omega⟩
      · rename_i hc
        refine ⟨h, fun q => ?_⟩
        obtain ⟨q1, q2⟩ := q
        have : j = k := by omega
        subst this
        rw [h] at hv
        cases hv
        exact hc q2
    · rename_i hn
      refine ⟨h, fun q => ?_⟩
      have : j = k := by omega
      subst this
      rw [h] at hn
      cases hn
theorem sp_s1_ld {L L' : sp_L} {i j : Nat} {v w : Value} (h : sp_s1 L i v = some L') (hw : sp_ld L' j = some w) : (j = i ∧ w = v) ∨ (j ≠ i ∧ sp_ld L j = some w ∧ ¬ (j + 1 = i ∧ w.category = 2)) := by
  unfold sp_s1 at h
  split at h
  · cases h
    by_cases hj : j = i
    · subst hj
      rw [sp_ld_iff, List.getElem?_set_self' ] at hw
      left
      refine ⟨rfl, ?_⟩
      cases hx : (sp_fix L j)[j]? with
      | none => rw [hx] at hw; simp at hw
      | some o => rw [hx] at hw; simp at hw; exact hw.symm
    · right
      rw [sp_ld_iff, List.getElem?_set_ne (Ne.symm hj)] at hw
      obtain ⟨h1, h2⟩ := sp_fix_ld hj (sp_ld_iff.mpr hw)
      exact ⟨hj, h1, h2⟩
  · cases h
theorem sp_s2_ld {L L' : sp_L} {i j : Nat} {v w : Value} (h : sp_s2 L i v = some L') (hw : sp_ld L' j = some w) : (j = i ∧ w = v) ∨ (j ≠ i ∧ j ≠ i + 1 ∧ sp_ld L j = some w ∧ ¬ (j + 1 = i ∧ w.category = 2)) := by
  unfold sp_s2 at h
  split at h
  · cases h
    by_cases hj : j = i
    · subst hj
      rw [sp_ld_iff, List.getElem?_set_self'] at hw
      left
      refine ⟨rfl, ?_⟩
      cases hx : ((sp_fix L j).set (j + 1) none)[j]? with
      | none => rw [hx] at hw; simp at hw
      | some o => rw [hx] at hw; simp at hw; exact hw.symm
    · right
      rw [sp_ld_iff, List.getElem?_set_ne (Ne.symm hj)] at hw
      by_cases hj2 : j = i + 1
      · subst hj2
        rw [List.getElem?_set_self'] at hw
        cases hx : (sp_fix L i)[i + 1]? with
        | none => rw [hx] at hw; simp at hw
        | some o => rw [hx] at hw; simp at hw
      · rw [List.getElem?_set_ne (Ne.symm hj2)] at hw
        obtain ⟨h1, h2⟩ := sp_fix_ld hj (sp_ld_iff.mpr hw)
        exact ⟨hj, hj2, h1, h2⟩
  · cases h
theorem sp_s1_len {L L' : sp_L} {i : Nat} {v : Value} (h : sp_s1 L i v = some L') : i < L.length ∧ L'.length = L.length := by
  unfold sp_s1 at h
  split at h
  · cases h
    exact ⟨by assumption, by rw [List.length_set, sp_fix_len]⟩
  · cases h
theorem sp_s2_len {L L' : sp_L} {i : Nat} {v : Value} (h : sp_s2 L i v = some L') : i + 1 < L.length ∧ L'.length = L.length := by
  unfold sp_s2 at h
  split at h
  · cases h
    exact ⟨by assumption, by rw [List.length_set, List.length_set, sp_fix_len]⟩
  · cases h
/-- the frame's locals hold what the list says -/
def sp_lr (ls : Array Slot) (nL : Nat) (L : sp_L) : Prop := ls.size = nL ∧ lv_wf ls ∧ L.length = nL ∧ ∀ (i : Nat) (v : Value), sp_ld L i = some v → ls[i]? = some (.val v)
theorem sp_lr_at {ls : Array Slot} {nL : Nat} {L : sp_L} (h : sp_lr ls nL L) {i : Nat} {v : Value} (hv : sp_ld L i = some v) : ls[i]? = some (.val v) := h.2.2.2 i v hv
def sp_prs (L : sp_L) : List (Nat × Value) := (List.range L.length).filterMap (fun i => (sp_ld L i).map (fun v => (i, v)))
theorem sp_prs_mem {L : sp_L} {i : Nat} {v : Value} : (i, v) ∈ sp_prs L ↔ sp_ld L i = some v := by
  unfold sp_prs
  rw [List.mem_filterMap]
  constructor
  · rintro ⟨j, -, hj⟩
    obtain ⟨w, h1, h2⟩ := Option.map_eq_some_iff.mp hj
    cases h2
    exact h1
  · intro h
    have hi : i < L.length := by
      have := sp_ld_iff.mp h
      exact (List.getElem?_eq_some_iff.mp this).1
    exact ⟨i, List.mem_range.mpr hi, by rw [h]; rfl⟩
theorem sp_lr_has {ls : Array Slot} {nL : Nat} {L : sp_L} (h : sp_lr ls nL L) : lv_has ls nL (sp_prs L) := ⟨h.1, h.2.1, fun q hq => h.2.2.2 q.1 q.2 (sp_prs_mem.mp hq)⟩
theorem sp_lr_s1 {ls' : Array Slot} {nL i : Nat} {L L' : sp_L} {v : Value} {lv : List (Nat × Value)} (hn : L.length = nL) (hlv : ∀ (j : Nat) (w : Value), sp_ld L j = some w → (j, w) ∈ lv) (hs : sp_s1 L i v = some L')
    (h : lv_has ls' nL ((i, v) :: lv.filter (fun q => !(q.1 == i) && !(q.1 + 1 == i && q.2.category == 2)))) : sp_lr ls' nL L' := by
  refine ⟨h.1, h.2.1, (sp_s1_len hs).2.trans hn, fun j w hw => ?_⟩
  rcases sp_s1_ld hs hw with ⟨rfl, rfl⟩ | ⟨h1, h2, h3⟩
  · exact h.2.2 _ List.mem_cons_self
  · refine h.2.2 (j, w) (List.mem_cons_of_mem _ (List.mem_filter.mpr ⟨hlv j w h2, ?_⟩))
    have : (j == i) = false := by simpa using h1
    simp only [this, Bool.not_false, Bool.true_and, Bool.not_eq_true', Bool.and_eq_false_imp, beq_iff_eq]
    intro q
    simp only [beq_eq_false_iff_ne, ne_eq]
    exact fun q2 => h3 ⟨q, q2⟩
theorem sp_lr_s2 {ls' : Array Slot} {nL i : Nat} {L L' : sp_L} {v : Value} {lv : List (Nat × Value)} (hn : L.length = nL) (hlv : ∀ (j : Nat) (w : Value), sp_ld L j = some w → (j, w) ∈ lv) (hs : sp_s2 L i v = some L')
    (h : lv_has ls' nL ((i, v) :: lv.filter (fun q => !(q.1 == i) && (!(q.1 == i + 1) && !(q.1 + 1 == i && q.2.category == 2))))) : sp_lr ls' nL L' := by
  refine ⟨h.1, h.2.1, (sp_s2_len hs).2.trans hn, fun j w hw => ?_⟩
  rcases sp_s2_ld hs hw with ⟨rfl, rfl⟩ | ⟨h1, h1', h2, h3⟩
  · exact h.2.2 _ List.mem_cons_self
  · refine h.2.2 (j, w) (List.mem_cons_of_mem _ (List.mem_filter.mpr ⟨hlv j w h2, ?_⟩))
    have e1 : (j == i) = false := by simpa using h1
    have e2 : (j == i + 1) = false := by simpa using h1'
    simp only [e1, e2, Bool.not_false, Bool.true_and, Bool.not_eq_true', Bool.and_eq_false_imp, beq_iff_eq]
    intro q
    simp only [beq_eq_false_iff_ne, ne_eq]
    exact fun q2 => h3 ⟨q, q2⟩
-- a method's arguments in its locals
def sp_ea : List Value → sp_L
  | [] => []
  | v :: vs => if v.category = 2 then some v :: none :: sp_ea vs else some v :: sp_ea vs
def sp_ent (n : Nat) (vs : List Value) : sp_L := sp_ea vs ++ List.replicate (n - (sp_ea vs).length) none
theorem sp_ea_len (vs : List Value) : (sp_ea vs).length = (lg_sl vs).length := by
  induction vs with
  | nil => rfl
  | cons v vs ih =>
    have e : lg_sl (v :: vs) = (if v.category = 2 then [Slot.val v, .second] else [Slot.val v]) ++ lg_sl vs := by simp [lg_sl]
    rw [e]
    unfold sp_ea
    by_cases h : v.category = 2
    · rw [if_pos h, if_pos h]; simp [ih]
    · rw [if_neg h, if_neg h]; simp [ih]
theorem sp_ea_ld (vs : List Value) (rest : List Slot) : ∀ (i : Nat) (v : Value), (sp_ea vs)[i]? = some (some v) → (lg_sl vs ++ rest)[i]? = some (.val v) := by
  induction vs with
  | nil => intro i v h; simp [sp_ea] at h
  | cons w vs ih =>
    intro i v h
    have e : lg_sl (w :: vs) = (if w.category = 2 then [Slot.val w, .second] else [Slot.val w]) ++ lg_sl vs := by simp [lg_sl]
    rw [e]
    unfold sp_ea at h
    by_cases hc : w.category = 2
    · rw [if_pos hc] at h ⊢
      match i, h with
      | 0, h => simp at h; subst h; rfl
      | 1, h => simp at h
      | i + 2, h => simp at h; simpa using ih i v h
    · rw [if_neg hc] at h ⊢
      match i, h with
      | 0, h => simp at h; subst h; rfl
      | i + 1, h => simp at h; simpa using ih i v h
theorem sp_ent_lr {n : Nat} {vs : List Value} (h : (sp_ea vs).length ≤ n) : sp_lr ((lg_sl vs ++ List.replicate (n - (lg_sl vs).length) Slot.unset).toArray) n (sp_ent n vs) := by
  have h0 : (lg_sl vs).length ≤ n := by rw [← sp_ea_len]; exact h
  obtain ⟨h1, h2, -⟩ := lv_entry vs h0
  refine ⟨h1, h2, by simp [sp_ent]; omega, fun i v hv => ?_⟩
  rw [sp_ld_iff] at hv
  unfold sp_ent at hv
  by_cases hi : i < (sp_ea vs).length
  · rw [List.getElem?_append_left hi] at hv
    simpa using sp_ea_ld vs _ i v hv
  · rw [List.getElem?_append_right (by omega), List.getElem?_replicate] at hv
    split at hv <;> simp at hv
-- what touches neither cells nor the place
def sp_fc (n : Fin 3) : UInt32 := if n = 0 then FP.fconst0 else if n = 1 then FP.fconst1 else FP.fconst2
def sp_dc (n : Fin 2) : UInt64 := if n = 0 then FP.dconst0 else FP.dconst1
def sp_ok32 (r : UInt32) : Bool := decide (r &&& 0x7fffffff ≤ 0x7f800000)
def sp_ok64 (r : UInt64) : Bool := decide (r &&& 0x7fffffffffffffff ≤ 0x7ff0000000000000)
def sp_pu (L : sp_L) (v : Option Value) (st : List Value) : Option (sp_L × List Value) := v.map (fun v => (L, v :: st))
def sp_ldi (L : sp_L) (k : Nat) : Option Value := match sp_ld L k with | some (.int x) => some (.int x) | _ => none
def sp_ldl (L : sp_L) (k : Nat) : Option Value := match sp_ld L k with | some (.long x) => some (.long x) | _ => none
def sp_ldf (L : sp_L) (k : Nat) : Option Value := match sp_ld L k with | some (.float x) => some (.float x) | _ => none
def sp_ldd (L : sp_L) (k : Nat) : Option Value := match sp_ld L k with | some (.double x) => some (.double x) | _ => none
def sp_lda (L : sp_L) (k : Nat) : Option Value := match sp_ld L k with | some (.ref x) => some (.ref x) | _ => none
/-- loads and stores of locals -/
def sp_loc (i : Instr) (len : Nat) (L : sp_L) (st : List Value) : Option (sp_L × List Value) := match i, len, st with
  | .iload k, 2, st => sp_pu L (sp_ldi L k) st
  | .iload_n k, 1, st => sp_pu L (sp_ldi L k) st
  | .lload k, 2, st => sp_pu L (sp_ldl L k) st
  | .lload_n k, 1, st => sp_pu L (sp_ldl L k) st
  | .fload k, 2, st => sp_pu L (sp_ldf L k) st
  | .fload_n k, 1, st => sp_pu L (sp_ldf L k) st
  | .dload k, 2, st => sp_pu L (sp_ldd L k) st
  | .dload_n k, 1, st => sp_pu L (sp_ldd L k) st
  | .aload k, 2, st => sp_pu L (sp_lda L k) st
  | .aload_n k, 1, st => sp_pu L (sp_lda L k) st
  | .istore k, 2, .int x :: st => (sp_s1 L k (.int x)).map (fun l => (l, st))
  | .istore_n k, 1, .int x :: st => (sp_s1 L k (.int x)).map (fun l => (l, st))
  | .lstore k, 2, .long x :: st => (sp_s2 L k (.long x)).map (fun l => (l, st))
  | .lstore_n k, 1, .long x :: st => (sp_s2 L k (.long x)).map (fun l => (l, st))
  | .fstore k, 2, .float x :: st => (sp_s1 L k (.float x)).map (fun l => (l, st))
  | .fstore_n k, 1, .float x :: st => (sp_s1 L k (.float x)).map (fun l => (l, st))
  | .dstore k, 2, .double x :: st => (sp_s2 L k (.double x)).map (fun l => (l, st))
  | .dstore_n k, 1, .double x :: st => (sp_s2 L k (.double x)).map (fun l => (l, st))
  | .astore k, 2, .ref x :: st => (sp_s1 L k (.ref x)).map (fun l => (l, st))
  | .astore_n k, 1, .ref x :: st => (sp_s1 L k (.ref x)).map (fun l => (l, st))
  | .iinc k n, 3, st => match sp_ld L k with
    | some (.int x) => (sp_s1 L k (.int (x + Int32.ofInt n))).map (fun l => (l, st))
    | _ => none
  | _, _, _ => none
/-- constants and what works on the stack alone -/
def sp_stk (i : Instr) (len : Nat) (st : List Value) : Option (List Value) := match i, len, st with
  | .iconst n, 1, st => some (.int (Int32.ofInt n) :: st)
  | .bipush n, 2, st => some (.int (Int8.ofInt n).toInt32 :: st)
  | .sipush n, 3, st => some (.int (Int16.ofInt n).toInt32 :: st)
  | .lconst n, 1, st => some (.long (Int64.ofNat (n : Nat)) :: st)
  | .fconst n, 1, st => some (.float (sp_fc n) :: st)
  | .dconst n, 1, st => some (.double (sp_dc n) :: st)
  | .iadd, 1, .int y :: .int x :: st => some (.int (x + y) :: st)
  | .isub, 1, .int y :: .int x :: st => some (.int (x - y) :: st)
  | .imul, 1, .int y :: .int x :: st => some (.int (x * y) :: st)
  | .iand, 1, .int y :: .int x :: st => some (.int (x &&& y) :: st)
  | .ishl, 1, .int y :: .int x :: st => some (.int (x <<< (y &&& 31)) :: st)
  | .ishr, 1, .int y :: .int x :: st => some (.int (x >>> (y &&& 31)) :: st)
  | .idiv, 1, .int y :: .int x :: st => if y = 0 then none else some (.int (x / y) :: st)
  | .irem, 1, .int y :: .int x :: st => if y = 0 then none else some (.int (x - x / y * y) :: st)
  | .ladd, 1, .long y :: .long x :: st => some (.long (x + y) :: st)
  | .lmul, 1, .long y :: .long x :: st => some (.long (x * y) :: st)
  | .lshl, 1, .int y :: .long x :: st => some (.long (x <<< (y.toInt64 &&& 63)) :: st)
  | .lcmp, 1, .long y :: .long x :: st => some (.int (lg_cmp x y) :: st)
  | .i2l, 1, .int x :: st => some (.long x.toInt64 :: st)
  | .i2f, 1, .int x :: st => some (.float (FP.i2f x) :: st)
  | .i2d, 1, .int x :: st => some (.double (FP.i2d x) :: st)
  | .i2c, 1, .int x :: st => some (.int (x.toUInt32 % 65536).toInt32 :: st)
  | .f2i, 1, .float x :: st => some (.int (FP.f2i x) :: st)
  | .d2l, 1, .double x :: st => some (.long (FP.d2l x) :: st)
  | .f2d, 1, .float x :: st => if sp_ok64 (FP.f2d x) then some (.double (FP.f2d x) :: st) else none
  | .fmul, 1, .float y :: .float x :: st => if sp_ok32 (FP.fmul x y) then some (.float (FP.fmul x y) :: st) else none
  | .fsub, 1, .float y :: .float x :: st => if sp_ok32 (FP.fsub x y) then some (.float (FP.fsub x y) :: st) else none
  | .fdiv, 1, .float y :: .float x :: st => if sp_ok32 (FP.fdiv x y) then some (.float (FP.fdiv x y) :: st) else none
  | .dmul, 1, .double y :: .double x :: st => if sp_ok64 (FP.dmul x y) then some (.double (FP.dmul x y) :: st) else none
  | .dsub, 1, .double y :: .double x :: st => if sp_ok64 (FP.dsub x y) then some (.double (FP.dsub x y) :: st) else none
  | .ddiv, 1, .double y :: .double x :: st => if sp_ok64 (FP.ddiv x y) then some (.double (FP.ddiv x y) :: st) else none
  | .fcmp op, 1, .float y :: .float x :: st => some (.int (Op.cmpValue (FP.fcmp x y) op) :: st)
  | .dcmp op, 1, .double y :: .double x :: st => some (.int (Op.cmpValue (FP.dcmp x y) op) :: st)
  | .dup, 1, v :: st => if v.category = 1 then some (v :: v :: st) else none
  | .pop, 1, v :: st => if v.category = 1 then some st else none
  | .dup2, 1, a :: b :: st => if a.category = 1 ∧ b.category = 1 then some (a :: b :: a :: b :: st) else none
  | _, _, _ => none
def sp_tg (pc : Nat) (off : Int) : Option Nat := if 0 ≤ (pc : Int) + off then some ((pc : Int) + off).toNat else none
def sp_br (c : Bool) (pc : Nat) (off : Int) (st : List Value) : Option (Nat × List Value) := (sp_tg pc off).map (fun t => (if c then t else pc + 3, st))
/-- jumps: the next place and the stack -/
def sp_jmp (i : Instr) (len pc : Nat) (st : List Value) : Option (Nat × List Value) := match i, len, st with
  | .goto off, 3, st => (sp_tg pc off).map (fun t => (t, st))
  | .ifCond .eq off, 3, .int x :: st => sp_br (decide (x = 0)) pc off st
  | .ifCond .ne off, 3, .int x :: st => sp_br (decide (¬ x = 0)) pc off st
  | .ifCond .lt off, 3, .int x :: st => sp_br (decide (x < 0)) pc off st
  | .ifCond .ge off, 3, .int x :: st => sp_br (decide (0 ≤ x)) pc off st
  | .ifCond .gt off, 3, .int x :: st => sp_br (decide (0 < x)) pc off st
  | .ifCond .le off, 3, .int x :: st => sp_br (decide (x ≤ 0)) pc off st
  | .if_icmp .eq off, 3, .int y :: .int x :: st => sp_br (decide (x = y)) pc off st
  | .if_icmp .ne off, 3, .int y :: .int x :: st => sp_br (decide (¬ x = y)) pc off st
  | .if_icmp .lt off, 3, .int y :: .int x :: st => sp_br (decide (x < y)) pc off st
  | .if_icmp .ge off, 3, .int y :: .int x :: st => sp_br (decide (y ≤ x)) pc off st
  | .if_icmp .gt off, 3, .int y :: .int x :: st => sp_br (decide (y < x)) pc off st
  | .if_icmp .le off, 3, .int y :: .int x :: st => sp_br (decide (x ≤ y)) pc off st
  | .ifnull _, 3, .ref _ :: st => some (pc + 3, st)
  | .tableswitch dflt lo hi offs, _, .int x :: st => if x.toInt < lo ∨ hi < x.toInt then (sp_tg pc dflt).map (fun t => (t, st)) else (offs[(x.toInt - lo).toNat]?).bind (fun off => (sp_tg pc off).map (fun t => (t, st)))
  | .lookupswitch dflt ps, _, .int x :: st => if (ps.toList.zip (ps.toList.drop 1)).all (fun (a, next) => a.1 < next.1) = true then (sp_tg pc (Op.lookupswitch.offset ps.toList dflt x.toInt)).map (fun t => (t, st)) else none
  | _, _, _ => none
