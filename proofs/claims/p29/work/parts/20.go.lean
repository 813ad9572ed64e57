/-! ===== from here on nothing but the abstract machine: what a run from a place comes to ===== -/
/-- from this place the run ends, with Q of its answer and its cells -/
def sq_go (G : sp_G) (y pc : Nat) (L : sp_L) (st : List Value) (M : sp_M) (Q : sp_R → sp_M → Prop) : Prop := ∃ n r M', sp_exec G n y pc L st M = some (r, M') ∧ Q r M'
theorem sp_exec_fuel (G : sp_G) : ∀ (n y pc : Nat) (L : sp_L) (st : List Value) (M : sp_M) (q : sp_R × sp_M), sp_exec G n y pc L st M = some q → sp_exec G (n + 1) y pc L st M = some q := by
  intro n
  induction n with
  | zero => intro y pc L st M q h; cases h
  | succ n ih =>
    intro y pc L st M q h
    unfold sp_exec at h ⊢
    split at h
    · cases h
    · rename_i e he
      split at h
      · exact h
      · split at h
        · cases h
        · rename_i i len hd
          split at h
          · split at h
            · cases h
            · exact ih _ _ _ _ _ _ h
          · split at h
            · cases h
            · exact ih _ _ _ _ _ _ h
          · split at h
            · cases h
            · exact ih _ _ _ _ _ _ h
          · split at h
            · cases h
            · exact ih _ _ _ _ _ _ h
          · split at h
            · cases h
            · exact ih _ _ _ _ _ _ h
          · exact h
          · split at h
            · cases h
            · exact ih _ _ _ _ _ _ h
            · split at h
              · cases h
              · rename_i hh
                rw [ih _ _ _ _ _ _ hh]
                exact ih _ _ _ _ _ _ h
              · rename_i hh
                rw [ih _ _ _ _ _ _ hh]
                dsimp only
                split at h
                · rename_i hE
                  rw [if_pos hE]
                  split at h
                  · exact h
                  · split at h
                    · cases h
                    · split at h
                      · rename_i hk
                        rw [if_pos hk]
                        exact ih _ _ _ _ _ _ h
                      · cases h
                · cases h
          · cases h
theorem sp_exec_more (G : sp_G) {n m y pc : Nat} {L : sp_L} {st : List Value} {M : sp_M} {q : sp_R × sp_M} (h : sp_exec G n y pc L st M = some q) (hm : n ≤ m) : sp_exec G m y pc L st M = some q := by
  obtain ⟨k, rfl⟩ := Nat.exists_eq_add_of_le hm
  clear hm
  induction k with
  | zero => exact h
  | succ k ih => exact sp_exec_fuel G _ _ _ _ _ _ _ ih
theorem sq_go.imp {G : sp_G} {y pc : Nat} {L : sp_L} {st : List Value} {M : sp_M} {Q Q' : sp_R → sp_M → Prop} (h : sq_go G y pc L st M Q) (hQ : ∀ r M', Q r M' → Q' r M') : sq_go G y pc L st M Q' := by
  obtain ⟨n, r, M', h1, h2⟩ := h
  exact ⟨n, r, M', h1, hQ r M' h2⟩
/-- the instruction at a place where nothing is thrown -/
abbrev sq_in (y pc : Nat) (i : Instr) (len : Nat) : Prop := sp_fd sp_thT y pc = none ∧ sp_ins y pc = some (i, len)
theorem sq_in_of {y pc : Nat} {i : Instr} {len : Nat} (h : sq_in y pc i len) : ∃ e, sp_T[y]? = some e ∧ sp_fd sp_thT y pc = none ∧ decode e.2.1 pc = .ok (i, len) := by
  obtain ⟨h1, h2⟩ := id h
  unfold sp_ins at h2
  split at h2
  · rename_i e he
    split at h2
    · rename_i r hr
      cases h2
      exact ⟨e, he, h1, hr⟩
    · cases h2
  · cases h2
def sq_c (y : Nat) : Nat := match sp_T[y]? with
  | some e => e.2.2.2.2.2.1
  | none => 0
def sq_ini (y : Nat) : Bool := match sp_T[y]? with
  | some e => decide (e.2.2.2.2.2.2.2.2.2 = 2)
  | none => false
def sq_ret (y : Nat) : Option FieldType := match sp_T[y]? with
  | some e => e.2.2.2.1
  | none => none
section SQA
variable {G : sp_G} {y pc len pc' : Nat} {i : Instr} {L L' : sp_L} {st st' : List Value} {M M' : sp_M} {Q : sp_R → sp_M → Prop}
theorem go_l (d : sq_in y pc i len) (h : sp_loc i len L st = some (L', st')) (k : sq_go G y (pc + len) L' st' M Q) (hg : sp_gr i = 0 := by rfl) : sq_go G y pc L st M Q := by
  obtain ⟨e, he, ht, hd⟩ := sq_in_of d
  obtain ⟨n, r, M1, h1, h2⟩ := k
  refine ⟨n + 1, r, M1, ?_, h2⟩
  unfold sp_exec
  simp only [he, ht, hd, hg, h]
  exact h1
theorem go_s (d : sq_in y pc i len) (h : sp_stk i len st = some st') (k : sq_go G y (pc + len) L st' M Q) (hg : sp_gr i = 1 := by rfl) : sq_go G y pc L st M Q := by
  obtain ⟨e, he, ht, hd⟩ := sq_in_of d
  obtain ⟨n, r, M1, h1, h2⟩ := k
  refine ⟨n + 1, r, M1, ?_, h2⟩
  unfold sp_exec
  simp only [he, ht, hd, hg, h]
  exact h1
theorem go_c (d : sq_in y pc i len) (h : sp_cst (sq_c y) i len st = some st') (k : sq_go G y (pc + len) L st' M Q) (hg : sp_gr i = 2 := by rfl) : sq_go G y pc L st M Q := by
  obtain ⟨e, he, ht, hd⟩ := sq_in_of d
  obtain ⟨n, r, M1, h1, h2⟩ := k
  refine ⟨n + 1, r, M1, ?_, h2⟩
  unfold sq_c at h
  rw [he] at h
  unfold sp_exec
  simp only [he, ht, hd, hg, h]
  exact h1
theorem go_j (d : sq_in y pc i len) (h : sp_jmp i len pc st = some (pc', st')) (k : sq_go G y pc' L st' M Q) (hg : sp_gr i = 3 := by rfl) : sq_go G y pc L st M Q := by
  obtain ⟨e, he, ht, hd⟩ := sq_in_of d
  obtain ⟨n, r, M1, h1, h2⟩ := k
  refine ⟨n + 1, r, M1, ?_, h2⟩
  unfold sp_exec
  simp only [he, ht, hd, hg, h]
  exact h1
theorem go_h (d : sq_in y pc i len) (h : sp_hp G (sq_c y) (sq_ini y) i len st M = some (st', M')) (k : sq_go G y (pc + len) L st' M' Q) (hg : sp_gr i = 4 := by rfl) : sq_go G y pc L st M Q := by
  obtain ⟨e, he, ht, hd⟩ := sq_in_of d
  obtain ⟨n, r, M1, h1, h2⟩ := k
  refine ⟨n + 1, r, M1, ?_, h2⟩
  unfold sq_c sq_ini at h
  rw [he] at h
  unfold sp_exec
  simp only [he, ht, hd, hg, h]
  exact h1
theorem go_r (d : sq_in y pc i len) {v : Option Value} (h : sp_retn (sq_ret y) i len st = some v) (k : Q (.inl v) M) (hg : sp_gr i = 5 := by rfl) : sq_go G y pc L st M Q := by
  obtain ⟨e, he, ht, hd⟩ := sq_in_of d
  refine ⟨1, .inl v, M, ?_, k⟩
  unfold sq_ret at h
  rw [he] at h
  unfold sp_exec
  simp only [he, ht, hd, hg, h]
def sq_cal (y : Nat) (i : Instr) (len : Nat) (st : List Value) (M : sp_M) : Option sp_C := match sp_T[y]? with
  | some e => sp_call e i len st M
  | none => none
theorem go_i (d : sq_in y pc i len) (h : sq_cal y i len st M = some (.inl (st', M'))) (k : sq_go G y (pc + 3) L st' M' Q) (hg : sp_gr i = 6 := by rfl) : sq_go G y pc L st M Q := by
  obtain ⟨e, he, ht, hd⟩ := sq_in_of d
  obtain ⟨n, r, M1, h1, h2⟩ := k
  refine ⟨n + 1, r, M1, ?_, h2⟩
  unfold sq_cal at h
  rw [he] at h
  unfold sp_exec
  simp only [he, ht, hd, hg, h]
  exact h1
/-- what follows a call that throws E -/
def sq_thr (G : sp_G) (y pc : Nat) (L : sp_L) (E : String) (M1 : sp_M) (Q : sp_R → sp_M → Prop) : Prop := ∃ e, sp_T[y]? = some e ∧ E ∈ sp_ex ∧ match sp_hdl e.2.2.2.2.1 pc E with
  | none => Q (.inr E) M1
  | some hp => ∃ k ln, sp_hst e.2.1 hp = some (k, ln) ∧ k < L.length ∧ sq_go G y (hp + ln) (sp_clr L k) [] M1 Q
/-- what follows a call -/
def sq_bk (G : sp_G) (y pc : Nat) (L : sp_L) (rest : List Value) (Q : sp_R → sp_M → Prop) : sp_R → sp_M → Prop
  | .inl v, M1 => sq_go G y (pc + 3) L (v.toList ++ rest) M1 Q
  | .inr E, M1 => sq_thr G y pc L E M1 Q
theorem go_k (d : sq_in y pc i len) {y' ml : Nat} {as rest : List Value} (h : sq_cal y i len st M = some (.inr (y', as, rest))) (hk : sp_ml y' = ml) (hkd : sp_kd y' ≠ 2) (k : sq_go G y' 0 (sp_ent ml as) [] M (sq_bk G y pc L rest Q)) (hg : sp_gr i = 6 := by rfl) : sq_go G y pc L st M Q := by
  obtain ⟨e, he, ht, hd⟩ := sq_in_of d
  obtain ⟨n, r, M1, h1, h2⟩ := k
  subst hk
  unfold sq_cal at h
  rw [he] at h
  cases r with
  | inl v =>
    obtain ⟨n2, r2, M2, h3, h4⟩ := h2
    refine ⟨n + n2 + 1, r2, M2, ?_, h4⟩
    unfold sp_exec
    simp only [he, ht, hd, hg, h, sp_exec_more G h1 (Nat.le_add_right n n2)]
    exact sp_exec_more G h3 (Nat.le_add_left n2 n)
  | inr E =>
    obtain ⟨e', he', hE, h2⟩ := h2
    cases he.symm.trans he'
    have hc : E ∈ sp_ex ∧ sp_kd y' ≠ 2 := ⟨hE, hkd⟩
    split at h2
    · rename_i hn
      refine ⟨n + 1, .inr E, M1, ?_, h2⟩
      unfold sp_exec
      simp only [he, ht, hd, hg, h, h1]
      rw [if_pos hc, hn]
    · rename_i hp hs
      obtain ⟨k, ln, h5, h6, n2, r2, M2, h3, h4⟩ := h2
      refine ⟨n + n2 + 1, r2, M2, ?_, h4⟩
      unfold sp_exec
      simp only [he, ht, hd, hg, h, sp_exec_more G h1 (Nat.le_add_right n n2)]
      rw [if_pos hc, hs]
      simp only [h5]
      rw [if_pos h6]
      exact sp_exec_more G h3 (Nat.le_add_left n2 n)
/-- a constructor's call: it only returns -/
theorem go_n (d : sq_in y pc i len) {y' ml : Nat} {as rest : List Value} (h : sq_cal y i len st M = some (.inr (y', as, rest))) (hk : sp_ml y' = ml) (k : sq_go G y' 0 (sp_ent ml as) [] M (fun r M1 => match r with | .inl v => sq_go G y (pc + 3) L (v.toList ++ rest) M1 Q | .inr _ => False)) (hg : sp_gr i = 6 := by rfl) : sq_go G y pc L st M Q := by
  obtain ⟨e, he, ht, hd⟩ := sq_in_of d
  obtain ⟨n, r, M1, h1, h2⟩ := k
  subst hk
  unfold sq_cal at h
  rw [he] at h
  cases r with
  | inl v =>
    obtain ⟨n2, r2, M2, h3, h4⟩ := h2
    refine ⟨n + n2 + 1, r2, M2, ?_, h4⟩
    unfold sp_exec
    simp only [he, ht, hd, hg, h, sp_exec_more G h1 (Nat.le_add_right n n2)]
    exact sp_exec_more G h3 (Nat.le_add_left n2 n)
  | inr E => exact h2.elim
/-- a throw -/
theorem go_t {q : String × Nat × Nat × Nat × Bool × String} (h : sp_fd sp_thT y pc = some q) (hy : (sp_T[y]?).isSome = true) (hst : sp_sum st ≤ 8) (k : Q (.inr q.1) (none, M.2.1 + 1, M.2.2.1 + 6, M.2.2.2)) : sq_go G y pc L st M Q := by
  obtain ⟨e, he⟩ := Option.isSome_iff_exists.mp hy
  refine ⟨1, .inr q.1, _, ?_, k⟩
  unfold sp_exec
  simp only [he, h]
  rw [if_pos hst]
end SQA
