/-! ===== what a walk over a method's numbers uses ===== -/
theorem sw_ifY {P : Prop} [Decidable P] {α : Type} {x y q : α} (hb : P) (h : (if P then x else y) = q) : x = q := by rw [if_pos hb] at h; exact h
theorem sw_ifN {P : Prop} [Decidable P] {α : Type} {x y q : α} (hb : ¬ P) (h : (if P then x else y) = q) : y = q := by rw [if_neg hb] at h; exact h
theorem sw_sj {α : Type} {a b : α} (h : some a = some b) : a = b := Option.some.inj h
/-- no loop runs longer -/
def sw_N : Nat := 5000
def sw_el {α β γ : Type} (s : α ⊕ β) (f : α → γ) (g : β → γ) : γ := match s with
  | .inl a => f a
  | .inr b => g b
theorem sw_elL {α β γ : Type} {s : α ⊕ β} {f : α → γ} {g : β → γ} {q : γ} {a : α} (hr : s = .inl a) (h : sw_el s f g = q) : f a = q := by subst hr; exact h
theorem sw_elR {α β γ : Type} {s : α ⊕ β} {f : α → γ} {g : β → γ} {q : γ} {b : β} (hr : s = .inr b) (h : sw_el s f g = q) : g b = q := by subst hr; exact h
theorem sw_ru {a : Int} {u : Unit} (e : sw_r1 a = some u) : -2147483648 ≤ a ∧ a < 2147483648 := (sw_gd e).1
theorem sw_sl {n a : Nat} {s : Nat × Nat} (hn : 221 ≤ n) (h : a < 221 ∧ sw_L[a]? = some s) : sw_s n a = some s := by
  unfold sw_s
  rw [List.getElem?_take, if_pos (by omega)]
  exact h.2
theorem sw_rk0 : ∀ b ∈ sw_rm, ∀ k, k < 24 → b + k < 221 ∧ sw_L[b + k]? = sw_rs[k]? := by decide
theorem sw_rk {n b : Nat} {s : Nat × Nat} (hn : 221 ≤ n) (hb : b ∈ sw_rm) (k : Nat) (h : k < 24 ∧ sw_rs[k]? = some s) : sw_s n (b + k) = some s := by
  obtain ⟨h1, h2⟩ := sw_rk0 b hb k h.1
  exact sw_sl hn ⟨h1, h2.trans h.2⟩
theorem sw_rb {n b : Nat} (hn : 221 ≤ n) (hb : b ∈ sw_rm) : sw_s n b = some (13, 0) := sw_rk hn hb 0 (by decide)
theorem sw_rr {n b u : Nat} {j : Int} (hn : 221 ≤ n) (hb : b ∈ sw_rm) (e : sw_rw 7 j = some u) : sw_s n (b + 12 + 1 + u) = some (0, 16) := by
  obtain ⟨hj, rfl⟩ := sw_gd e
  have hj7 : j.toNat < 7 := by omega
  have h : ∀ k, k < 7 → 13 + k < 24 ∧ sw_rs[13 + k]? = some (0, 16) := by decide
  rw [show b + 12 + 1 + j.toNat = b + (13 + j.toNat) by omega]
  exact sw_rk hn hb _ (h _ hj7)
theorem sw_rn {b : Nat} (hb : b ∈ sw_rm) : b ≠ 0 := sw_rm_pos b hb
section SWD
variable {G : sp_G} {z n y pc len t c idx ci k a : Nat} {off : Int} {i : Instr} {F : sw_F} {T T' : sw_T} {K : sw_K} {L L' : sp_L} {st : List Value} {M : sp_M} {Q : sp_R → sp_M → Prop}
theorem sw_bkv {v : Value} (kk : sq_go G y (pc + 3) L (v :: st) M Q) : sq_bk G y pc L st Q (.inl (some v)) M := kk
theorem sw_bk0 (kk : sq_go G y (pc + 3) L st M Q) : sq_bk G y pc L st Q (.inl none) M := kk
theorem ga_pfi (d : sq_in y pc (.putfield idx) 3) (hc : sq_c y = c) (hf : sp_fd sp_flT c idx = some (ci, k)) {c10 : Nat} (hs : sw_s n a = some (c10, 0)) (hci : c10 = ci + 10) {u : Int} (hv : ∀ u, sw_ifd ci k (.int (Int32.ofInt u)) u) (e : sw_pf T a k u = some T') (kk : sq_go G y (pc + 3) L st (sw_M z n F T' K) Q) : sq_go G y pc L (.int (Int32.ofInt u) :: .ref (z + a) :: st) (sw_M z n F T K) Q := by
  cases e
  exact ga_pfx d hc hf hs hci (hv u) kk
theorem ga_pfl (d : sq_in y pc (.putfield idx) 3) (hc : sq_c y = c) (hf : sp_fd sp_flT c idx = some (ci, k)) {c10 : Nat} (hs : sw_s n a = some (c10, 0)) (hci : c10 = ci + 10) {u : Int} (hv : ∀ u, sw_ifd ci k (.long (Int64.ofInt u)) u) (e : sw_pf T a k u = some T') (kk : sq_go G y (pc + 3) L st (sw_M z n F T' K) Q) : sq_go G y pc L (.long (Int64.ofInt u) :: .ref (z + a) :: st) (sw_M z n F T K) Q := by
  cases e
  exact ga_pfx d hc hf hs hci (hv u) kk
theorem ga_pfb (d : sq_in y pc (.putfield idx) 3) (hc : sq_c y = c) (hf : sp_fd sp_flT c idx = some (ci, k)) {c10 : Nat} (hs : sw_s n a = some (c10, 0)) (hci : c10 = ci + 10) {u : Int} (hv : ∀ u, u = 0 ∨ u = 1 → sw_ifd ci k (.int (Int32.ofInt u)) u) (e : sw_pb T a k u = some T') (kk : sq_go G y (pc + 3) L st (sw_M z n F T' K) Q) : sq_go G y pc L (.int (Int32.ofInt u) :: .ref (z + a) :: st) (sw_M z n F T K) Q := by
  obtain ⟨hu, rfl⟩ := sw_gd e
  exact ga_pfx d hc hf hs hci (hv u hu) kk
theorem ga_sw {v c : Int} (d : sq_in y pc i len) (hg : sp_gr i = 3) (hv : v = c) (h : sp_jmp i len pc (.int (Int32.ofInt c) :: st) = some (t, st)) (kk : sq_go G y t L st M Q) : sq_go G y pc L (.int (Int32.ofInt v) :: st) M Q := by
  subst hv
  exact go_j d h kk hg
theorem ga_tsd {df lo hi : Int} {offs : Array Int} {v : Int} {u : Unit} (d : sq_in y pc (.tableswitch df lo hi offs) len) (e : sw_r1 v = some u) (hv : v < lo ∨ hi < v) (ht : sp_tg pc df = some t) (kk : sq_go G y t L st M Q) : sq_go G y pc L (.int (Int32.ofInt v) :: st) M Q := by
  refine go_j d (pc' := t) (st' := st) ?_ kk
  show (if (Int32.ofInt v).toInt < lo ∨ hi < (Int32.ofInt v).toInt then (sp_tg pc df).map (fun t => (t, st)) else _) = _
  rw [sw_ri (sw_ru e), if_pos hv, ht]
  rfl
theorem sw_lsd : ∀ (l : List (Int × Int)) (df v : Int), (∀ p ∈ l, p.1 ≠ v) → Op.lookupswitch.offset l df v = df := by
  intro l
  induction l with
  | nil => intro df v h; rfl
  | cons p r ih =>
    intro df v h
    obtain ⟨q, o⟩ := p
    rw [Op.lookupswitch.offset_cons, if_neg (h (q, o) List.mem_cons_self)]
    exact ih df v (fun p hp => h p (List.mem_cons_of_mem _ hp))
theorem ga_lsd {df : Int} {ps : Array (Int × Int)} {v : Int} {u : Unit} (d : sq_in y pc (.lookupswitch df ps) len) (e : sw_r1 v = some u) (hs : (ps.toList.zip (ps.toList.drop 1)).all (fun (a, next) => a.1 < next.1) = true) (hv : ∀ p ∈ ps.toList, p.1 ≠ v) (ht : sp_tg pc df = some t) (kk : sq_go G y t L st M Q) : sq_go G y pc L (.int (Int32.ofInt v) :: st) M Q := by
  refine go_j d (pc' := t) (st' := st) ?_ kk
  show (if (ps.toList.zip (ps.toList.drop 1)).all (fun (a, next) => a.1 < next.1) = true then (sp_tg pc (Op.lookupswitch.offset ps.toList df (Int32.ofInt v).toInt)).map (fun t => (t, st)) else none) = _
  rw [if_pos hs, sw_ri (sw_ru e), sw_lsd _ _ _ hv, ht]
  rfl
def sw_b1 (v : Int) : Option Unit := if v = 0 ∨ v = 1 then some () else none
theorem ga_ri {v : Int} (d : sq_in y pc .ireturn 1) (hr : sq_ret y = some .int) (kk : Q (.inl (some (.int (Int32.ofInt v)))) M) : sq_go G y pc L [.int (Int32.ofInt v)] M Q := by
  refine go_r d (v := some (.int (Int32.ofInt v))) ?_ kk
  rw [hr]
  simp [sp_retn]
theorem ga_rb {v : Int} {u : Unit} (d : sq_in y pc .ireturn 1) (hr : sq_ret y = some .boolean) (e : sw_b1 v = some u) (kk : Q (.inl (some (.int (Int32.ofInt v)))) M) : sq_go G y pc L [.int (Int32.ofInt v)] M Q := by
  refine go_r d (v := some (.int (Int32.ofInt v))) ?_ kk
  rw [hr]
  rcases (sw_gd e).1 with rfl | rfl
  · rfl
  · rfl
theorem ga_rl {v : Int64} (d : sq_in y pc .lreturn 1) (hr : sq_ret y = some .long) (kk : Q (.inl (some (.long v))) M) : sq_go G y pc L [.long v] M Q := by
  refine go_r d (v := some (.long v)) ?_ kk
  rw [hr]
  simp [sp_retn]
theorem ga_rf {v : UInt32} (d : sq_in y pc .freturn 1) (hr : sq_ret y = some .float) (kk : Q (.inl (some (.float v))) M) : sq_go G y pc L [.float v] M Q := by
  refine go_r d (v := some (.float v)) ?_ kk
  rw [hr]
  simp [sp_retn]
theorem ga_rd {v : UInt64} (d : sq_in y pc .dreturn 1) (hr : sq_ret y = some .double) (kk : Q (.inl (some (.double v))) M) : sq_go G y pc L [.double v] M Q := by
  refine go_r d (v := some (.double v)) ?_ kk
  rw [hr]
  simp [sp_retn]
theorem ga_rv (d : sq_in y pc .return_ 1) (hr : sq_ret y = none) (kk : Q (.inl none) M) : sq_go G y pc L [] M Q := by
  refine go_r d (v := none) ?_ kk
  rw [hr]
  simp [sp_retn]
theorem ga_kl {u : Int} {w : Fin 2} (d : sq_in y pc (.lconst w) 1) (h : Int64.ofNat (w : Nat) = Int64.ofInt u) (kk : sq_go G y (pc + 1) L (.long (Int64.ofInt u) :: st) M Q) : sq_go G y pc L st M Q := go_s d (st' := .long (Int64.ofNat (w : Nat)) :: st) rfl (by rw [h]; exact kk)
theorem ga_kd (d : sq_in y pc (.ldc2_w idx) 3) (hc : sq_c y = c) {w : UInt64} (hf0 : sp_fd sp_clT c idx = none) (hf : sp_fd sp_cdT c idx = some w) (kk : sq_go G y (pc + 3) L (.double w :: st) M Q) : sq_go G y pc L st M Q := by
  refine go_c d (st' := .double w :: st) ?_ kk
  show (match sp_fd sp_clT (sq_c y) idx with | some v => some (Value.long v :: st) | none => (sp_fd sp_cdT (sq_c y) idx).map (fun v => Value.double v :: st)) = _
  rw [hc, hf0, hf]
  rfl
theorem ga_ddiv {x w : UInt64} {u : Unit} (d : sq_in y pc .ddiv 1) (e : sw_k64 (FP.ddiv x w) = some u) (kk : sq_go G y (pc + 1) L (.double (FP.ddiv x w) :: st) M Q) : sq_go G y pc L (.double w :: .double x :: st) M Q := go_s d (st' := .double (FP.ddiv x w) :: st) (if_pos (sw_gd e).1) kk
theorem ga_dmul {x w : UInt64} {u : Unit} (d : sq_in y pc .dmul 1) (e : sw_k64 (FP.dmul x w) = some u) (kk : sq_go G y (pc + 1) L (.double (FP.dmul x w) :: st) M Q) : sq_go G y pc L (.double w :: .double x :: st) M Q := go_s d (st' := .double (FP.dmul x w) :: st) (if_pos (sw_gd e).1) kk
theorem ga_dsub {x w : UInt64} {u : Unit} (d : sq_in y pc .dsub 1) (e : sw_k64 (FP.dsub x w) = some u) (kk : sq_go G y (pc + 1) L (.double (FP.dsub x w) :: st) M Q) : sq_go G y pc L (.double w :: .double x :: st) M Q := go_s d (st' := .double (FP.dsub x w) :: st) (if_pos (sw_gd e).1) kk
theorem ga_fdiv {x w : UInt32} {u : Unit} (d : sq_in y pc .fdiv 1) (e : sw_k32 (FP.fdiv x w) = some u) (kk : sq_go G y (pc + 1) L (.float (FP.fdiv x w) :: st) M Q) : sq_go G y pc L (.float w :: .float x :: st) M Q := go_s d (st' := .float (FP.fdiv x w) :: st) (if_pos (sw_gd e).1) kk
theorem ga_fmul {x w : UInt32} {u : Unit} (d : sq_in y pc .fmul 1) (e : sw_k32 (FP.fmul x w) = some u) (kk : sq_go G y (pc + 1) L (.float (FP.fmul x w) :: st) M Q) : sq_go G y pc L (.float w :: .float x :: st) M Q := go_s d (st' := .float (FP.fmul x w) :: st) (if_pos (sw_gd e).1) kk
theorem ga_fsub {x w : UInt32} {u : Unit} (d : sq_in y pc .fsub 1) (e : sw_k32 (FP.fsub x w) = some u) (kk : sq_go G y (pc + 1) L (.float (FP.fsub x w) :: st) M Q) : sq_go G y pc L (.float w :: .float x :: st) M Q := go_s d (st' := .float (FP.fsub x w) :: st) (if_pos (sw_gd e).1) kk
theorem ga_f2d {x : UInt32} {u : Unit} (d : sq_in y pc .f2d 1) (e : sw_k64 (FP.f2d x) = some u) (kk : sq_go G y (pc + 1) L (.double (FP.f2d x) :: st) M Q) : sq_go G y pc L (.float x :: st) M Q := go_s d (st' := .double (FP.f2d x) :: st) (if_pos (sw_gd e).1) kk
theorem ga_dcmp {x w : UInt64} {op : CmpOp} (d : sq_in y pc (.dcmp op) 1) (kk : sq_go G y (pc + 1) L (.int (Int32.ofInt (Op.cmpValue (FP.dcmp x w) op).toInt) :: st) M Q) : sq_go G y pc L (.double w :: .double x :: st) M Q := go_s d (st' := .int (Op.cmpValue (FP.dcmp x w) op) :: st) rfl (by rw [Int32.ofInt_toInt] at kk; exact kk)
theorem ga_fcmp {x w : UInt32} {op : CmpOp} (d : sq_in y pc (.fcmp op) 1) (kk : sq_go G y (pc + 1) L (.int (Int32.ofInt (Op.cmpValue (FP.fcmp x w) op).toInt) :: st) M Q) : sq_go G y pc L (.float w :: .float x :: st) M Q := go_s d (st' := .int (Op.cmpValue (FP.fcmp x w) op) :: st) rfl (by rw [Int32.ofInt_toInt] at kk; exact kk)
theorem ga_d2l {x : UInt64} (d : sq_in y pc .d2l 1) (kk : sq_go G y (pc + 1) L (.long (Int64.ofInt (FP.d2l x).toInt) :: st) M Q) : sq_go G y pc L (.double x :: st) M Q := go_s d (st' := .long (FP.d2l x) :: st) rfl (by rw [Int64.ofInt_toInt] at kk; exact kk)
theorem ga_f2i {x : UInt32} (d : sq_in y pc .f2i 1) (kk : sq_go G y (pc + 1) L (.int (Int32.ofInt (FP.f2i x).toInt) :: st) M Q) : sq_go G y pc L (.float x :: st) M Q := go_s d (st' := .int (FP.f2i x) :: st) rfl (by rw [Int32.ofInt_toInt] at kk; exact kk)
def sw_nd (x : UInt64) : Option Unit := if Op.cmpValue (FP.dcmp x x) CmpOp.l = 0 then some () else none
def sw_nf (x : UInt32) : Option Unit := if Op.cmpValue (FP.fcmp x x) CmpOp.l = 0 then some () else none
theorem sw_lcs (x : Int64) : lg_cmp x x = Int32.ofInt 0 := by
  unfold lg_cmp
  rw [if_neg (by rw [gt_iff_lt, Int64.lt_iff_toInt_lt]; omega), if_pos rfl]
  rfl
theorem ga_lceN {a b : Int} {u : Unit} (d : sq_in y pc .lcmp 1) (e : sw_l2 a b = some u) (hb : ¬ a = b) (d2 : sq_in y (pc + 1) (.ifCond .eq off) 3) (ht : sp_tg (pc + 1) off = some t) (kk : sq_go G y (pc + 1 + 3) L st M Q) : sq_go G y pc L (.long (Int64.ofInt b) :: .long (Int64.ofInt a) :: st) M Q := by
  refine ga_lcmp d e ?_
  by_cases h : b < a
  · rw [if_pos h]
    exact ga_zeqN d2 (u := ()) (by decide) (by decide) ht kk
  · rw [if_neg h, if_neg hb]
    exact ga_zeqN d2 (u := ()) (by decide) (by decide) ht kk
theorem ga_lceY {a b : Int} (d : sq_in y pc .lcmp 1) (hb : a = b) (d2 : sq_in y (pc + 1) (.ifCond .eq off) 3) (ht : sp_tg (pc + 1) off = some t) (kk : sq_go G y t L st M Q) : sq_go G y pc L (.long (Int64.ofInt b) :: .long (Int64.ofInt a) :: st) M Q := by
  subst hb
  refine go_s d (st' := .int (lg_cmp (Int64.ofInt a) (Int64.ofInt a)) :: st) rfl ?_
  rw [sw_lcs]
  exact ga_zeqY d2 (u := ()) (by decide) rfl ht kk
theorem ga_lcnN {a b : Int} {u : Unit} (d : sq_in y pc .lcmp 1) (e : sw_l2 a b = some u) (hb : ¬ a = b) (d2 : sq_in y (pc + 1) (.ifCond .ne off) 3) (ht : sp_tg (pc + 1) off = some t) (kk : sq_go G y t L st M Q) : sq_go G y pc L (.long (Int64.ofInt b) :: .long (Int64.ofInt a) :: st) M Q := by
  refine ga_lcmp d e ?_
  by_cases h : b < a
  · rw [if_pos h]
    exact ga_zneN d2 (u := ()) (by decide) (by decide) ht kk
  · rw [if_neg h, if_neg hb]
    exact ga_zneN d2 (u := ()) (by decide) (by decide) ht kk
theorem ga_lcnY {a b : Int} (d : sq_in y pc .lcmp 1) (hb : a = b) (d2 : sq_in y (pc + 1) (.ifCond .ne off) 3) (ht : sp_tg (pc + 1) off = some t) (kk : sq_go G y (pc + 1 + 3) L st M Q) : sq_go G y pc L (.long (Int64.ofInt b) :: .long (Int64.ofInt a) :: st) M Q := by
  subst hb
  refine go_s d (st' := .int (lg_cmp (Int64.ofInt a) (Int64.ofInt a)) :: st) rfl ?_
  rw [sw_lcs]
  exact ga_zneY d2 (u := ()) (by decide) rfl ht kk
/-! throws -/
def sw_en (E : Nat) : String := if E = 0 then "java/lang/IllegalArgumentException" else if E = 1 then "java/lang/IllegalStateException" else "java/lang/IndexOutOfBoundsException"
theorem sw_en_ex (E : Nat) : sw_en E ∈ sp_ex := by
  unfold sw_en
  split
  · decide
  · split <;> decide
def sw_nh (y : Nat) : Bool := match sp_T[y]? with
  | some e => decide (e.2.2.2.2.1 = [])
  | none => false
theorem sw_thn {E : Nat} (h : sw_nh y = true) (kk : Q (.inr (sw_en E)) M) : sq_bk G y pc L st Q (.inr (sw_en E)) M := by
  unfold sw_nh at h
  split at h
  · rename_i e he
    refine ⟨e, he, sw_en_ex E, ?_⟩
    rw [of_decide_eq_true h]
    exact kk
  · cases h
def sw_hk (y pc E : Nat) : Option (Nat × Nat) := match sp_T[y]? with
  | some e => (sp_hdl e.2.2.2.2.1 pc (sw_en E)).bind (fun hp => (sp_hst e.2.1 hp).map (fun q => (hp + q.2, q.1)))
  | none => none
theorem sw_thh {E hp k : Nat} (h : sw_hk y pc E = some (hp, k)) (hk : k < L.length) (hL : sp_clr L k = L') (kk : sq_go G y hp L' [] M Q) : sq_bk G y pc L st Q (.inr (sw_en E)) M := by
  unfold sw_hk at h
  split at h
  · rename_i e he
    refine ⟨e, he, sw_en_ex E, ?_⟩
    cases h1 : sp_hdl e.2.2.2.2.1 pc (sw_en E) with
    | none => rw [h1] at h; cases h
    | some q =>
      rw [h1] at h
      dsimp only [Option.bind] at h
      cases h2 : sp_hst e.2.1 q with
      | none => rw [h2] at h; cases h
      | some w =>
        rw [h2] at h
        cases h
        exact ⟨w.1, w.2, h2, hk, by rw [hL]; exact kk⟩
  · cases h
def sw_tq (y pc E : Nat) : Bool := match sp_fd sp_thT y pc with
  | some q => decide (q.1 = sw_en E) && (sp_T[y]?).isSome
  | none => false
theorem ga_th {E : Nat} (h : sw_tq y pc E = true) (hst : sp_sum st ≤ 8) (kk : Q (.inr (sw_en E)) (sw_M z n F T (sw_th K))) : sq_go G y pc L st (sw_M z n F T K) Q := by
  unfold sw_tq at h
  split at h
  · rename_i q hq
    rw [Bool.and_eq_true] at h
    have h1 : q.1 = sw_en E := of_decide_eq_true h.1
    refine go_t hq h.2 hst ?_
    rw [h1]
    exact kk
  · cases h
/-- what a call may do to the counts -/
def sw_kk (K K' : sw_K) : Prop := K'.2.1 ≤ K.2.1 + 1 ∧ K'.2.2 ≤ K.2.2 + 6
theorem sw_kk.rf {K : sw_K} : sw_kk K K := ⟨Nat.le_succ _, Nat.le_add_right _ _⟩
theorem sw_kk.th {K : sw_K} : sw_kk K (sw_th K) := ⟨Nat.le_refl _, Nat.le_refl _⟩
theorem sw_kk.nn {K : sw_K} : sw_kk K (none, K.2) := ⟨Nat.le_succ _, Nat.le_add_right _ _⟩
end SWD
theorem qi0_1 (u : Int) : sw_ifd 0 1 (.int (Int32.ofInt u)) u := ⟨fun z a f t => ⟨rfl, Nat.le_of_ble_eq_true rfl⟩, rfl, by decide⟩
theorem qi1_1 (u : Int) : sw_ifd 1 1 (.int (Int32.ofInt u)) u := ⟨fun z a f t => ⟨rfl, Nat.le_of_ble_eq_true rfl⟩, rfl, by decide⟩
theorem qi3_0 (u : Int) : sw_ifd 3 0 (.int (Int32.ofInt u)) u := ⟨fun z a f t => ⟨rfl, Nat.le_of_ble_eq_true rfl⟩, rfl, by decide⟩
theorem qi3_1 (u : Int) : sw_ifd 3 1 (.int (Int32.ofInt u)) u := ⟨fun z a f t => ⟨rfl, Nat.le_of_ble_eq_true rfl⟩, rfl, by decide⟩
theorem qi3_2 (u : Int) : sw_ifd 3 2 (.int (Int32.ofInt u)) u := ⟨fun z a f t => ⟨rfl, Nat.le_of_ble_eq_true rfl⟩, rfl, by decide⟩
theorem qi3_3 (u : Int) : sw_ifd 3 3 (.int (Int32.ofInt u)) u := ⟨fun z a f t => ⟨rfl, Nat.le_of_ble_eq_true rfl⟩, rfl, by decide⟩
theorem qi4_0 (u : Int) : sw_ifd 4 0 (.int (Int32.ofInt u)) u := ⟨fun z a f t => ⟨rfl, Nat.le_of_ble_eq_true rfl⟩, rfl, by decide⟩
theorem qi5_5 (u : Int) (hu : u = 0 ∨ u = 1) : sw_ifd 5 5 (.int (Int32.ofInt u)) u := ⟨fun z a f t => ⟨rfl, Nat.le_of_ble_eq_true rfl⟩, (by rcases hu with rfl | rfl <;> decide), by decide⟩
section SWE
variable {G : sp_G} {z n y pc t c idx : Nat} {off : Int} {F : sw_F} {T T' : sw_T} {K : sw_K} {L L' : sp_L} {st : List Value} {M : sp_M} {Q : sp_R → sp_M → Prop}
theorem ga_k32 (d : sq_in y pc (.ldc idx) 2) (hc : sq_c y = c) {w : Int32} {u : Int} (hf : sp_fd sp_ciT c idx = some w) (hu : w = Int32.ofInt u) (kk : sq_go G y (pc + 2) L (.int (Int32.ofInt u) :: st) M Q) : sq_go G y pc L st M Q := by
  subst hu
  refine go_c d (st' := .int (Int32.ofInt u) :: st) ?_ kk
  show (sp_fd sp_ciT (sq_c y) idx).map (fun v => Value.int v :: st) = _
  rw [hc, hf]
  rfl
theorem sw_and_1 (a : Int) : Int32.ofInt a &&& Int32.ofInt 1 = Int32.ofInt (a % 2) := by
  apply Int32.toBitVec_inj.mp
  rw [Int32.toBitVec_and, Int32.toBitVec_ofInt, Int32.toBitVec_ofInt, Int32.toBitVec_ofInt]
  apply BitVec.eq_of_toNat_eq
  rw [BitVec.toNat_and, BitVec.toNat_ofInt, BitVec.toNat_ofInt, BitVec.toNat_ofInt]
  rw [show ((1 : Int) % ((2 ^ 32 : Nat) : Int)).toNat = 2 ^ 1 - 1 from rfl, Nat.and_two_pow_sub_one_eq_mod]
  omega
theorem ga_iand1 {a : Int} (d : sq_in y pc .iand 1) (kk : sq_go G y (pc + 1) L (.int (Int32.ofInt (a % 2)) :: st) M Q) : sq_go G y pc L (.int (Int32.ofInt 1) :: .int (Int32.ofInt a) :: st) M Q := go_s d (st' := .int (Int32.ofInt a &&& Int32.ofInt 1) :: st) rfl (by rw [sw_and_1]; exact kk)
theorem sw_and_3 (a : Int) : Int32.ofInt a &&& Int32.ofInt 3 = Int32.ofInt (a % 4) := by
  apply Int32.toBitVec_inj.mp
  rw [Int32.toBitVec_and, Int32.toBitVec_ofInt, Int32.toBitVec_ofInt, Int32.toBitVec_ofInt]
  apply BitVec.eq_of_toNat_eq
  rw [BitVec.toNat_and, BitVec.toNat_ofInt, BitVec.toNat_ofInt, BitVec.toNat_ofInt]
  rw [show ((3 : Int) % ((2 ^ 32 : Nat) : Int)).toNat = 2 ^ 2 - 1 from rfl, Nat.and_two_pow_sub_one_eq_mod]
  omega
theorem ga_iand3 {a : Int} (d : sq_in y pc .iand 1) (kk : sq_go G y (pc + 1) L (.int (Int32.ofInt (a % 4)) :: st) M Q) : sq_go G y pc L (.int (Int32.ofInt 3) :: .int (Int32.ofInt a) :: st) M Q := go_s d (st' := .int (Int32.ofInt a &&& Int32.ofInt 3) :: st) rfl (by rw [sw_and_3]; exact kk)
theorem sw_and_7 (a : Int) : Int32.ofInt a &&& Int32.ofInt 7 = Int32.ofInt (a % 8) := by
  apply Int32.toBitVec_inj.mp
  rw [Int32.toBitVec_and, Int32.toBitVec_ofInt, Int32.toBitVec_ofInt, Int32.toBitVec_ofInt]
  apply BitVec.eq_of_toNat_eq
  rw [BitVec.toNat_and, BitVec.toNat_ofInt, BitVec.toNat_ofInt, BitVec.toNat_ofInt]
  rw [show ((7 : Int) % ((2 ^ 32 : Nat) : Int)).toNat = 2 ^ 3 - 1 from rfl, Nat.and_two_pow_sub_one_eq_mod]
  omega
theorem ga_iand7 {a : Int} (d : sq_in y pc .iand 1) (kk : sq_go G y (pc + 1) L (.int (Int32.ofInt (a % 8)) :: st) M Q) : sq_go G y pc L (.int (Int32.ofInt 7) :: .int (Int32.ofInt a) :: st) M Q := go_s d (st' := .int (Int32.ofInt a &&& Int32.ofInt 7) :: st) rfl (by rw [sw_and_7]; exact kk)
theorem sw_and_15 (a : Int) : Int32.ofInt a &&& Int32.ofInt 15 = Int32.ofInt (a % 16) := by
  apply Int32.toBitVec_inj.mp
  rw [Int32.toBitVec_and, Int32.toBitVec_ofInt, Int32.toBitVec_ofInt, Int32.toBitVec_ofInt]
  apply BitVec.eq_of_toNat_eq
  rw [BitVec.toNat_and, BitVec.toNat_ofInt, BitVec.toNat_ofInt, BitVec.toNat_ofInt]
  rw [show ((15 : Int) % ((2 ^ 32 : Nat) : Int)).toNat = 2 ^ 4 - 1 from rfl, Nat.and_two_pow_sub_one_eq_mod]
  omega
theorem ga_iand15 {a : Int} (d : sq_in y pc .iand 1) (kk : sq_go G y (pc + 1) L (.int (Int32.ofInt (a % 16)) :: st) M Q) : sq_go G y pc L (.int (Int32.ofInt 15) :: .int (Int32.ofInt a) :: st) M Q := go_s d (st' := .int (Int32.ofInt a &&& Int32.ofInt 15) :: st) rfl (by rw [sw_and_15]; exact kk)
theorem sw_and_2147483647 (a : Int) : Int32.ofInt a &&& Int32.ofInt 2147483647 = Int32.ofInt (a % 2147483648) := by
  apply Int32.toBitVec_inj.mp
  rw [Int32.toBitVec_and, Int32.toBitVec_ofInt, Int32.toBitVec_ofInt, Int32.toBitVec_ofInt]
  apply BitVec.eq_of_toNat_eq
  rw [BitVec.toNat_and, BitVec.toNat_ofInt, BitVec.toNat_ofInt, BitVec.toNat_ofInt]
  rw [show ((2147483647 : Int) % ((2 ^ 32 : Nat) : Int)).toNat = 2 ^ 31 - 1 from rfl, Nat.and_two_pow_sub_one_eq_mod]
  omega
theorem ga_iand2147483647 {a : Int} (d : sq_in y pc .iand 1) (kk : sq_go G y (pc + 1) L (.int (Int32.ofInt (a % 2147483648)) :: st) M Q) : sq_go G y pc L (.int (Int32.ofInt 2147483647) :: .int (Int32.ofInt a) :: st) M Q := go_s d (st' := .int (Int32.ofInt a &&& Int32.ofInt 2147483647) :: st) rfl (by rw [sw_and_2147483647]; exact kk)
theorem sw_shr_2 {a : Int} (h : -2147483648 ≤ a ∧ a < 2147483648) : Int32.ofInt a >>> (Int32.ofInt 2 &&& 31) = Int32.ofInt (a / 4) := by
  apply Int32.toInt_inj.mp
  rw [sw_ri (a := a / 4) ⟨by omega, by omega⟩]
  show (Int32.ofInt a >>> (Int32.ofInt 2 &&& 31)).toBitVec.toInt = a / 4
  rw [Int32.toBitVec_shiftRight]
  have h1 : ((Int32.ofInt 2 &&& 31).toBitVec.smod 32#32) = 2#32 := by decide
  first | rw [h1] | (simp only [show ((Int32.ofInt 2 &&& 31).toBitVec).smod 32 = 2#32 from by decide])
  show ((Int32.ofInt a).toBitVec.sshiftRight 2).toInt = a / 4
  rw [BitVec.toInt_sshiftRight, Int.shiftRight_eq_div_pow]
  show (Int32.ofInt a).toInt / _ = _
  rw [sw_ri h]
  rfl
theorem ga_ishr2 {a : Int} {u : Unit} (d : sq_in y pc .ishr 1) (e : sw_r1 a = some u) (kk : sq_go G y (pc + 1) L (.int (Int32.ofInt (a / 4)) :: st) M Q) : sq_go G y pc L (.int (Int32.ofInt 2) :: .int (Int32.ofInt a) :: st) M Q := go_s d (st' := .int (Int32.ofInt a >>> (Int32.ofInt 2 &&& 31)) :: st) rfl (by rw [sw_shr_2 (sw_ru e)]; exact kk)
theorem sw_shr_4 {a : Int} (h : -2147483648 ≤ a ∧ a < 2147483648) : Int32.ofInt a >>> (Int32.ofInt 4 &&& 31) = Int32.ofInt (a / 16) := by
  apply Int32.toInt_inj.mp
  rw [sw_ri (a := a / 16) ⟨by omega, by omega⟩]
  show (Int32.ofInt a >>> (Int32.ofInt 4 &&& 31)).toBitVec.toInt = a / 16
  rw [Int32.toBitVec_shiftRight]
  have h1 : ((Int32.ofInt 4 &&& 31).toBitVec.smod 32#32) = 4#32 := by decide
  first | rw [h1] | (simp only [show ((Int32.ofInt 4 &&& 31).toBitVec).smod 32 = 4#32 from by decide])
  show ((Int32.ofInt a).toBitVec.sshiftRight 4).toInt = a / 16
  rw [BitVec.toInt_sshiftRight, Int.shiftRight_eq_div_pow]
  show (Int32.ofInt a).toInt / _ = _
  rw [sw_ri h]
  rfl
theorem ga_ishr4 {a : Int} {u : Unit} (d : sq_in y pc .ishr 1) (e : sw_r1 a = some u) (kk : sq_go G y (pc + 1) L (.int (Int32.ofInt (a / 16)) :: st) M Q) : sq_go G y pc L (.int (Int32.ofInt 4) :: .int (Int32.ofInt a) :: st) M Q := go_s d (st' := .int (Int32.ofInt a >>> (Int32.ofInt 4 &&& 31)) :: st) rfl (by rw [sw_shr_4 (sw_ru e)]; exact kk)
theorem sw_shr_8 {a : Int} (h : -2147483648 ≤ a ∧ a < 2147483648) : Int32.ofInt a >>> (Int32.ofInt 8 &&& 31) = Int32.ofInt (a / 256) := by
  apply Int32.toInt_inj.mp
  rw [sw_ri (a := a / 256) ⟨by omega, by omega⟩]
  show (Int32.ofInt a >>> (Int32.ofInt 8 &&& 31)).toBitVec.toInt = a / 256
  rw [Int32.toBitVec_shiftRight]
  have h1 : ((Int32.ofInt 8 &&& 31).toBitVec.smod 32#32) = 8#32 := by decide
  first | rw [h1] | (simp only [show ((Int32.ofInt 8 &&& 31).toBitVec).smod 32 = 8#32 from by decide])
  show ((Int32.ofInt a).toBitVec.sshiftRight 8).toInt = a / 256
  rw [BitVec.toInt_sshiftRight, Int.shiftRight_eq_div_pow]
  show (Int32.ofInt a).toInt / _ = _
  rw [sw_ri h]
  rfl
theorem ga_ishr8 {a : Int} {u : Unit} (d : sq_in y pc .ishr 1) (e : sw_r1 a = some u) (kk : sq_go G y (pc + 1) L (.int (Int32.ofInt (a / 256)) :: st) M Q) : sq_go G y pc L (.int (Int32.ofInt 8) :: .int (Int32.ofInt a) :: st) M Q := go_s d (st' := .int (Int32.ofInt a >>> (Int32.ofInt 8 &&& 31)) :: st) rfl (by rw [sw_shr_8 (sw_ru e)]; exact kk)
theorem sw_shr_9 {a : Int} (h : -2147483648 ≤ a ∧ a < 2147483648) : Int32.ofInt a >>> (Int32.ofInt 9 &&& 31) = Int32.ofInt (a / 512) := by
  apply Int32.toInt_inj.mp
  rw [sw_ri (a := a / 512) ⟨by omega, by omega⟩]
  show (Int32.ofInt a >>> (Int32.ofInt 9 &&& 31)).toBitVec.toInt = a / 512
  rw [Int32.toBitVec_shiftRight]
  have h1 : ((Int32.ofInt 9 &&& 31).toBitVec.smod 32#32) = 9#32 := by decide
  first | rw [h1] | (simp only [show ((Int32.ofInt 9 &&& 31).toBitVec).smod 32 = 9#32 from by decide])
  show ((Int32.ofInt a).toBitVec.sshiftRight 9).toInt = a / 512
  rw [BitVec.toInt_sshiftRight, Int.shiftRight_eq_div_pow]
  show (Int32.ofInt a).toInt / _ = _
  rw [sw_ri h]
  rfl
theorem ga_ishr9 {a : Int} {u : Unit} (d : sq_in y pc .ishr 1) (e : sw_r1 a = some u) (kk : sq_go G y (pc + 1) L (.int (Int32.ofInt (a / 512)) :: st) M Q) : sq_go G y pc L (.int (Int32.ofInt 9) :: .int (Int32.ofInt a) :: st) M Q := go_s d (st' := .int (Int32.ofInt a >>> (Int32.ofInt 9 &&& 31)) :: st) rfl (by rw [sw_shr_9 (sw_ru e)]; exact kk)
theorem sw_shr_20 {a : Int} (h : -2147483648 ≤ a ∧ a < 2147483648) : Int32.ofInt a >>> (Int32.ofInt 20 &&& 31) = Int32.ofInt (a / 1048576) := by
  apply Int32.toInt_inj.mp
  rw [sw_ri (a := a / 1048576) ⟨by omega, by omega⟩]
  show (Int32.ofInt a >>> (Int32.ofInt 20 &&& 31)).toBitVec.toInt = a / 1048576
  rw [Int32.toBitVec_shiftRight]
  have h1 : ((Int32.ofInt 20 &&& 31).toBitVec.smod 32#32) = 20#32 := by decide
  first | rw [h1] | (simp only [show ((Int32.ofInt 20 &&& 31).toBitVec).smod 32 = 20#32 from by decide])
  show ((Int32.ofInt a).toBitVec.sshiftRight 20).toInt = a / 1048576
  rw [BitVec.toInt_sshiftRight, Int.shiftRight_eq_div_pow]
  show (Int32.ofInt a).toInt / _ = _
  rw [sw_ri h]
  rfl
theorem ga_ishr20 {a : Int} {u : Unit} (d : sq_in y pc .ishr 1) (e : sw_r1 a = some u) (kk : sq_go G y (pc + 1) L (.int (Int32.ofInt (a / 1048576)) :: st) M Q) : sq_go G y pc L (.int (Int32.ofInt 20) :: .int (Int32.ofInt a) :: st) M Q := go_s d (st' := .int (Int32.ofInt a >>> (Int32.ofInt 20 &&& 31)) :: st) rfl (by rw [sw_shr_20 (sw_ru e)]; exact kk)
end SWE
