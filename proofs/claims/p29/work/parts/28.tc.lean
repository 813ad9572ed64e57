/-! ===== the run is the same if more is known of the locals ===== -/
def sw_lq (L L' : sp_L) : Prop := L.length = L'.length ∧ ∀ i v, sp_ld L i = some v → sp_ld L' i = some v
theorem sw_lq_of : ∀ (L L' : sp_L), sw_le L L' → sw_lq L L' := by
  intro L
  induction L with
  | nil =>
    intro L' h
    match L', h with
    | [], _ => exact ⟨rfl, fun i v h => h⟩
  | cons x l ih =>
    intro L' h
    match x, L', h with
    | none, _ :: l', h =>
      obtain ⟨h1, h2⟩ := ih l' h
      refine ⟨congrArg (· + 1) h1, fun i v hv => ?_⟩
      match i with
      | 0 => cases hv
      | i + 1 => exact h2 i v hv
    | some w, x' :: l', h =>
      obtain ⟨hx, h⟩ := h
      obtain ⟨h1, h2⟩ := ih l' h
      refine ⟨congrArg (· + 1) h1, fun i v hv => ?_⟩
      match i with
      | 0 => rw [hx]; exact hv
      | i + 1 => exact h2 i v hv
theorem sw_lq_set {L L' : sp_L} (h : sw_lq L L') (k : Nat) (v : Option Value) : sw_lq (L.set k v) (L'.set k v) := by
  refine ⟨by rw [List.length_set, List.length_set]; exact h.1, fun i w hw => ?_⟩
  unfold sp_ld at hw ⊢
  rw [List.getElem?_set] at hw ⊢
  split at hw
  · rename_i hk
    rw [if_pos hk]
    split at hw
    · rename_i hl
      rw [if_pos (h.1 ▸ hl)]
      exact hw
    · cases hw
  · rename_i hk
    rw [if_neg hk]
    exact h.2 i w hw
theorem sw_lq_none {L L' : sp_L} (h : sw_lq L L') (k : Nat) (hk : sp_ld L k = none) : sw_lq L (L'.set k none) := by
  refine ⟨by rw [List.length_set]; exact h.1, fun i w hw => ?_⟩
  have := h.2 i w hw
  unfold sp_ld at this ⊢
  rw [List.getElem?_set]
  split
  · rename_i hi
    subst hi
    rw [hk] at hw
    cases hw
  · exact this
theorem sw_lq_fix {L L' : sp_L} (h : sw_lq L L') (i : Nat) : sw_lq (sp_fix L i) (sp_fix L' i) := by
  unfold sp_fix
  match i with
  | 0 => exact h
  | j + 1 =>
    dsimp only
    cases hl : sp_ld L j with
    | some w =>
      rw [h.2 j w hl]
      dsimp only
      by_cases hw : w.category = 2
      · rw [if_pos hw, if_pos hw]
        exact sw_lq_set h j none
      · rw [if_neg hw, if_neg hw]
        exact h
    | none =>
      dsimp only
      split
      · split
        · exact sw_lq_none h j hl
        · exact h
      · exact h
theorem sw_lq_s1 {L L' : sp_L} (h : sw_lq L L') {k : Nat} {v : Value} {R : sp_L} (hs : sp_s1 L k v = some R) : ∃ R', sp_s1 L' k v = some R' ∧ sw_lq R R' := by
  unfold sp_s1 at hs ⊢
  split at hs
  · rename_i hk
    cases hs
    rw [if_pos (h.1 ▸ hk)]
    exact ⟨_, rfl, sw_lq_set (sw_lq_fix h k) k _⟩
  · cases hs
theorem sw_lq_s2 {L L' : sp_L} (h : sw_lq L L') {k : Nat} {v : Value} {R : sp_L} (hs : sp_s2 L k v = some R) : ∃ R', sp_s2 L' k v = some R' ∧ sw_lq R R' := by
  unfold sp_s2 at hs ⊢
  split at hs
  · rename_i hk
    cases hs
    rw [if_pos (h.1 ▸ hk)]
    exact ⟨_, rfl, sw_lq_set (sw_lq_set (sw_lq_fix h k) (k + 1) _) k _⟩
  · cases hs
theorem sw_pu {L L' : sp_L} (h : sw_lq L L') {f : sp_L → Option Value} (hf : ∀ v, f L = some v → f L' = some v) {st : List Value} {R : sp_L} {st' : List Value} (hs : sp_pu L (f L) st = some (R, st')) : ∃ R', sp_pu L' (f L') st = some (R', st') ∧ sw_lq R R' := by
  cases hl : f L with
  | none => rw [hl] at hs; cases hs
  | some v =>
    rw [hl] at hs
    cases hs
    rw [hf v hl]
    exact ⟨L', rfl, h⟩
theorem sw_mi {L L' : sp_L} (h : sw_lq L L') (k : Nat) : ∀ v, sp_ldi L k = some v → sp_ldi L' k = some v := by
  intro v hv
  unfold sp_ldi at hv ⊢
  split at hv
  · rename_i hx; rw [h.2 k _ hx]; exact hv
  · cases hv
theorem sw_ml {L L' : sp_L} (h : sw_lq L L') (k : Nat) : ∀ v, sp_ldl L k = some v → sp_ldl L' k = some v := by
  intro v hv
  unfold sp_ldl at hv ⊢
  split at hv
  · rename_i hx; rw [h.2 k _ hx]; exact hv
  · cases hv
theorem sw_mf {L L' : sp_L} (h : sw_lq L L') (k : Nat) : ∀ v, sp_ldf L k = some v → sp_ldf L' k = some v := by
  intro v hv
  unfold sp_ldf at hv ⊢
  split at hv
  · rename_i hx; rw [h.2 k _ hx]; exact hv
  · cases hv
theorem sw_md {L L' : sp_L} (h : sw_lq L L') (k : Nat) : ∀ v, sp_ldd L k = some v → sp_ldd L' k = some v := by
  intro v hv
  unfold sp_ldd at hv ⊢
  split at hv
  · rename_i hx; rw [h.2 k _ hx]; exact hv
  · cases hv
theorem sw_ma {L L' : sp_L} (h : sw_lq L L') (k : Nat) : ∀ v, sp_lda L k = some v → sp_lda L' k = some v := by
  intro v hv
  unfold sp_lda at hv ⊢
  split at hv
  · rename_i hx; rw [h.2 k _ hx]; exact hv
  · cases hv
theorem sw_mapl {α : Type} {o o' : Option α} {st st' : List Value} {R : α} {P : α → α → Prop} (h : ∀ R, o = some R → ∃ R', o' = some R' ∧ P R R') (hs : o.map (fun l => (l, st)) = some (R, st')) : ∃ R', o'.map (fun l => (l, st)) = some (R', st') ∧ P R R' := by
  cases ho : o with
  | none => rw [ho] at hs; cases hs
  | some r =>
    rw [ho] at hs
    cases hs
    obtain ⟨R', h1, h2⟩ := h _ ho
    rw [h1]
    exact ⟨R', rfl, h2⟩
theorem sw_lq_loc {L L' : sp_L} (h : sw_lq L L') {i : Instr} {len : Nat} {st st' : List Value} {R : sp_L} (hs : sp_loc i len L st = some (R, st')) : ∃ R', sp_loc i len L' st = some (R', st') ∧ sw_lq R R' := by
  unfold sp_loc at hs ⊢
  split at hs
  · exact sw_pu h (f := fun L => sp_ldi L _) (sw_mi h _) hs
  · exact sw_pu h (f := fun L => sp_ldi L _) (sw_mi h _) hs
  · exact sw_pu h (f := fun L => sp_ldl L _) (sw_ml h _) hs
  · exact sw_pu h (f := fun L => sp_ldl L _) (sw_ml h _) hs
  · exact sw_pu h (f := fun L => sp_ldf L _) (sw_mf h _) hs
  · exact sw_pu h (f := fun L => sp_ldf L _) (sw_mf h _) hs
  · exact sw_pu h (f := fun L => sp_ldd L _) (sw_md h _) hs
  · exact sw_pu h (f := fun L => sp_ldd L _) (sw_md h _) hs
  · exact sw_pu h (f := fun L => sp_lda L _) (sw_ma h _) hs
  · exact sw_pu h (f := fun L => sp_lda L _) (sw_ma h _) hs
  · exact sw_mapl (fun R hR => sw_lq_s1 h hR) hs
  · exact sw_mapl (fun R hR => sw_lq_s1 h hR) hs
  · exact sw_mapl (fun R hR => sw_lq_s2 h hR) hs
  · exact sw_mapl (fun R hR => sw_lq_s2 h hR) hs
  · exact sw_mapl (fun R hR => sw_lq_s1 h hR) hs
  · exact sw_mapl (fun R hR => sw_lq_s1 h hR) hs
  · exact sw_mapl (fun R hR => sw_lq_s2 h hR) hs
  · exact sw_mapl (fun R hR => sw_lq_s2 h hR) hs
  · exact sw_mapl (fun R hR => sw_lq_s1 h hR) hs
  · exact sw_mapl (fun R hR => sw_lq_s1 h hR) hs
  · split at hs
    · rename_i hx
      rw [h.2 _ _ hx]
      exact sw_mapl (fun R hR => sw_lq_s1 h hR) hs
    · cases hs
  · cases hs
theorem sp_exec_lq (G : sp_G) : ∀ (n y pc : Nat) (L L' : sp_L) (st : List Value) (M : sp_M) (q : sp_R × sp_M), sw_lq L L' → sp_exec G n y pc L st M = some q → sp_exec G n y pc L' st M = some q := by
  intro n
  induction n with
  | zero => intro y pc L L' st M q hq h; cases h
  | succ n ih =>
    intro y pc L L' st M q hq h
    unfold sp_exec at h ⊢
    split at h
    · cases h
    · rename_i e he
      split at h
      · exact h
      · split at h
        · cases h
        · rename_i i len hd
          split at h
          · split at h
            · cases h
            · rename_i R st' hl
              obtain ⟨R', h1, h2⟩ := sw_lq_loc hq hl
              rw [h1]
              exact ih _ _ _ _ _ _ _ h2 h
          · split at h
            · cases h
            · exact ih _ _ _ _ _ _ _ hq h
          · split at h
            · cases h
            · exact ih _ _ _ _ _ _ _ hq h
          · split at h
            · cases h
            · exact ih _ _ _ _ _ _ _ hq h
          · split at h
            · cases h
            · exact ih _ _ _ _ _ _ _ hq h
          · exact h
          · split at h
            · cases h
            · exact ih _ _ _ _ _ _ _ hq h
            · split at h
              · cases h
              · exact ih _ _ _ _ _ _ _ hq h
              · split at h
                · rename_i hE
                  rw [if_pos hE]
                  split at h
                  · exact h
                  · split at h
                    · cases h
                    · split at h
                      · rename_i hk
                        rw [if_pos (hq.1 ▸ hk)]
                        exact ih _ _ _ _ _ _ _ (sw_lq_set (sw_lq_fix hq _) _ _) h
                      · cases h
                · cases h
          · cases h
theorem sq_weak {G : sp_G} {y pc : Nat} {L L' : sp_L} {st : List Value} {M : sp_M} {Q : sp_R → sp_M → Prop} (h : sw_le L L') (k : sq_go G y pc L st M Q) : sq_go G y pc L' st M Q := by
  obtain ⟨n, r, M', h1, h2⟩ := k
  exact ⟨n, r, M', sp_exec_lq G n y pc L L' st M _ (sw_lq_of _ _ h) h1, h2⟩
/-! ===== calls ===== -/
/-- what of a call can be read off the tables: the caller, the pool's number, the method called, its kind, how many ints it takes, its class -/
def sw_ck (y idx y' kd na cj ml : Nat) : Bool := match sp_T[y]?, sp_T0[y']? with
  | some e, some e' => decide (sp_fits e e' = true ∧ e'.2.2.2.2.2.2.2.2.2 = kd ∧ e'.2.2.2.2.2.2.1 = na ∧ e'.2.2.2.2.2.1 = cj ∧ e'.2.2.1 = ml ∧ e.2.2.2.2.2.1 < 100) && (match kd with
    | 0 => decide (sp_fd sp_caT e.2.2.2.2.2.1 idx = some y')
    | 1 => decide (sp_fd sp_caT e.2.2.2.2.2.1 idx = some y' ∧ sp_fd sp_cjT e.2.2.2.2.2.1 idx = none ∧ cj = e.2.2.2.2.2.1)
    | _ => decide (sp_fd sp_coT e.2.2.2.2.2.1 idx = none ∧ (sp_fd sp_caT e.2.2.2.2.2.1 idx).or (sp_fd sp_cnT e.2.2.2.2.2.1 idx) = some y' ∧ e'.2.2.2.2.1 = []))
  | _, _ => false
section SWC
variable {G : sp_G} {z n y pc c idx : Nat} {F : sw_F} {T T' : sw_T} {K : sw_K} {L L' : sp_L} {st : List Value} {M : sp_M} {Q : sp_R → sp_M → Prop}
theorem sw_isC {a cj : Nat} {c10 : Nat} (hs : sw_s n a = some (c10, 0)) (hc : c10 = cj + 10) : sp_isC (sw_M z n F T K) (z + a) cj = true := by
  subst hc
  unfold sp_isC
  rw [show (sw_M z n F T K).2.2.2 (z + a) = some (.inr (cj + 10 - 10, sw_fd (cj + 10 - 10) z a (F a) (T a))) from sw_h_at hs]
  exact decide_eq_true (by omega)
/-- a method of an object is called -/
theorem ga_kv {y' na cj ml a c10 : Nat} (d : sq_in y pc (.invokevirtual idx) 3) (hk : sw_ck y idx y' 0 na cj ml = true) (hs : sw_s n a = some (c10, 0)) (hc : c10 = cj + 10) {as rest : List Value} (h1 : st = as.reverse ++ .ref (z + a) :: rest) (h2 : as.length = na) (h3 : sp_sum rest ≤ 8) (h4 : (sp_ea (.ref (z + a) :: as)).length ≤ ml) (hL : sp_ent ml (.ref (z + a) :: as) = L') (k : sq_go G y' 0 L' [] (sw_M z n F T K) (sq_bk G y pc L rest Q)) : sq_go G y pc L st (sw_M z n F T K) Q := by
  subst h1
  unfold sw_ck at hk
  split at hk
  · rename_i e e' he he'
    rw [Bool.and_eq_true] at hk
    obtain ⟨hk1, hk2⟩ := hk
    obtain ⟨f1, f2, f3, f4, f5, f6⟩ := of_decide_eq_true hk1
    have hca : sp_fd sp_caT e.2.2.2.2.2.1 idx = some y' := of_decide_eq_true hk2
    have hml : sp_ml y' = ml := by unfold sp_ml; rw [he']; exact f5
    have hkd : sp_kd y' ≠ 2 := by unfold sp_kd; rw [he']; show e'.2.2.2.2.2.2.2.2.2 ≠ 2; rw [f2]; decide
    refine go_k d (y' := y') (ml := ml) (as := .ref (z + a) :: as) (rest := rest) ?_ hml hkd (by rw [hL]; exact k)
    unfold sq_cal
    rw [he]
    show sp_calV e idx _ _ = _
    unfold sp_calV
    rw [hca]
    dsimp only
    rw [he']
    dsimp only
    rw [if_pos ⟨f2, f1⟩]
    unfold sp_recv
    have hr : as.reverse.length = e'.2.2.2.2.2.2.1 := by rw [List.length_reverse, h2, f3]
    rw [show (as.reverse ++ Value.ref (z + a) :: rest).drop e'.2.2.2.2.2.2.1 = .ref (z + a) :: rest by rw [← hr]; exact List.drop_left, show (as.reverse ++ Value.ref (z + a) :: rest).take e'.2.2.2.2.2.2.1 = as.reverse by rw [← hr]; exact List.take_left]
    dsimp only
    rw [List.reverse_reverse, if_pos ⟨fun _ => by rw [f4]; exact sw_isC hs hc, h3, by rw [f5]; exact h4, by rw [List.length_append, hr]; exact Nat.le_add_right _ _⟩]
  · cases hk
/-- a static method is called -/
theorem ga_kS {y' na cj ml : Nat} (d : sq_in y pc (.invokestatic idx) 3) (hk : sw_ck y idx y' 1 na cj ml = true) {as rest : List Value} (h1 : st = as.reverse ++ rest) (h2 : as.length = na) (h3 : sp_sum rest ≤ 8) (h4 : (sp_ea as).length ≤ ml) (hL : sp_ent ml as = L') (k : sq_go G y' 0 L' [] M (sq_bk G y pc L rest Q)) : sq_go G y pc L st M Q := by
  subst h1
  unfold sw_ck at hk
  split at hk
  · rename_i e e' he he'
    rw [Bool.and_eq_true] at hk
    obtain ⟨hk1, hk2⟩ := hk
    obtain ⟨f1, f2, f3, f4, f5, f6⟩ := of_decide_eq_true hk1
    obtain ⟨hca, hcj, hcc⟩ : sp_fd sp_caT e.2.2.2.2.2.1 idx = some y' ∧ sp_fd sp_cjT e.2.2.2.2.2.1 idx = none ∧ cj = e.2.2.2.2.2.1 := of_decide_eq_true hk2
    have hml : sp_ml y' = ml := by unfold sp_ml; rw [he']; exact f5
    have hkd : sp_kd y' ≠ 2 := by unfold sp_kd; rw [he']; show e'.2.2.2.2.2.2.2.2.2 ≠ 2; rw [f2]; decide
    refine go_k d (y' := y') (ml := ml) (as := as) (rest := rest) ?_ hml hkd (by rw [hL]; exact k)
    unfold sq_cal
    rw [he]
    show sp_calS e idx _ M = _
    unfold sp_calS
    rw [hcj, hca]
    dsimp only
    rw [he']
    dsimp only
    have hr : as.reverse.length = e'.2.2.2.2.2.2.1 := by rw [List.length_reverse, h2, f3]
    rw [show (as.reverse ++ rest).drop e'.2.2.2.2.2.2.1 = rest by rw [← hr]; exact List.drop_left, show (as.reverse ++ rest).take e'.2.2.2.2.2.2.1 = as.reverse by rw [← hr]; exact List.take_left, List.reverse_reverse]
    rw [if_pos ⟨f2, f4.trans hcc, f1, h3, by rw [f5]; exact h4, by rw [List.length_append, hr]; exact Nat.le_add_right _ _⟩]
  · cases hk
/-- a constructor is called -/
theorem ga_kc {y' na cj ml a : Nat} (d : sq_in y pc (.invokespecial idx) 3) (hk : sw_ck y idx y' 2 na cj ml = true) {as rest : List Value} (h1 : st = as.reverse ++ .ref (z + a) :: rest) (h2 : as.length = na) (h3 : sp_sum rest ≤ 8) (h4 : (sp_ea (.ref (z + a) :: as)).length ≤ ml) (hL : sp_ent ml (.ref (z + a) :: as) = L') (k : sq_go G y' 0 L' [] M (fun r M1 => match r with | .inl v => sq_go G y (pc + 3) L (v.toList ++ rest) M1 Q | .inr _ => False)) : sq_go G y pc L st M Q := by
  subst h1
  unfold sw_ck at hk
  split at hk
  · rename_i e e' he he'
    rw [Bool.and_eq_true] at hk
    obtain ⟨hk1, hk2⟩ := hk
    obtain ⟨f1, f2, f3, f4, f5, f6⟩ := of_decide_eq_true hk1
    obtain ⟨hco, hca, hnil⟩ : sp_fd sp_coT e.2.2.2.2.2.1 idx = none ∧ (sp_fd sp_caT e.2.2.2.2.2.1 idx).or (sp_fd sp_cnT e.2.2.2.2.2.1 idx) = some y' ∧ e'.2.2.2.2.1 = [] := of_decide_eq_true hk2
    have hml : sp_ml y' = ml := by unfold sp_ml; rw [he']; exact f5
    refine go_n d (y' := y') (ml := ml) (as := .ref (z + a) :: as) (rest := rest) ?_ hml (by rw [hL]; exact k)
    unfold sq_cal
    rw [he]
    show sp_calI e idx _ _ = _
    unfold sp_calI
    rw [hco, hca]
    dsimp only
    rw [he']
    dsimp only
    rw [if_pos ⟨f2, f1, hnil⟩]
    unfold sp_recv
    have hr : as.reverse.length = e'.2.2.2.2.2.2.1 := by rw [List.length_reverse, h2, f3]
    rw [show (as.reverse ++ Value.ref (z + a) :: rest).drop e'.2.2.2.2.2.2.1 = .ref (z + a) :: rest by rw [← hr]; exact List.drop_left, show (as.reverse ++ Value.ref (z + a) :: rest).take e'.2.2.2.2.2.2.1 = as.reverse by rw [← hr]; exact List.take_left]
    dsimp only
    rw [List.reverse_reverse, if_pos ⟨(fun h => by cases h), h3, by rw [f5]; exact h4, by rw [List.length_append, hr]; exact Nat.le_add_right _ _⟩]
  · cases hk
end SWC
