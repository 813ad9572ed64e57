/-! ===== the objects' making ===== -/
def sw_Tn (T : sw_T) (n : Nat) : sw_T := fun a => if a = n then (fun _ => 0) else T a
def sw_Fn (F : sw_F) (n : Nat) : sw_F := fun a => if a = n then (fun _ => false) else F a
def sw_Tm (T : sw_T) (n m : Nat) : sw_T := fun a => if n ≤ a ∧ a ≤ n + m then (fun _ => 0) else T a
def sw_fs (f : Nat → Bool) (k : Nat) : Nat → Bool := fun i => if i = k then true else f i
def sw_Fs (F : sw_F) (a k : Nat) : sw_F := fun a' => if a' = a then sw_fs (F a) k else F a'
theorem sw_s_lt {n a : Nat} (h : a < n) : sw_s n a = sw_L[a]? := by
  unfold sw_s
  rw [List.getElem?_take, if_pos h]
theorem sw_s_ge {n a : Nat} (h : n ≤ a) : sw_s n a = none := by
  unfold sw_s
  rw [List.getElem?_take, if_neg (by omega)]
theorem sw_rc {b j : Nat} {s : Nat × Nat} (hb : b ∈ sw_rm) (k : Nat) (h : k < j ∧ k < 24 ∧ sw_rs[k]? = some s) : sw_s (b + j) (b + k) = some s := by
  obtain ⟨h1, h2⟩ := sw_rk0 b hb k h.2.1
  rw [sw_s_lt (by omega)]
  exact h2.trans h.2.2
theorem sw_rc0 {b j : Nat} (hb : b ∈ sw_rm) (h : 0 < j) : sw_s (b + j) b = some (13, 0) := sw_rc hb 0 ⟨h, by decide⟩
theorem sw_rL {b : Nat} {s : Nat × Nat} (hb : b ∈ sw_rm) (k : Nat) (h : k < 24 ∧ sw_rs[k]? = some s) : sw_L[b + k]? = some s := (sw_rk0 b hb k h.1).2.trans h.2
theorem sw_h_new {z n : Nat} {F F' : sw_F} {T T' : sw_T} {s : Nat × Nat} (hs : sw_L[n]? = some s) (hF : ∀ a, a < n → F' a = F a) (hT : ∀ a, a < n → T' a = T a) : sp_up (sw_h z n F T) (z + n) (sw_ce z n (F' n) (T' n) s) = sw_h z (n + 1) F' T' := by
  funext q
  unfold sp_up
  by_cases hq : q = z + n
  · subst hq
    rw [if_pos rfl, sw_h_at (s := s) ((sw_s_lt (Nat.lt_succ_self n)).trans hs)]
  · rw [if_neg hq]
    unfold sw_h
    by_cases h : q < z
    · rw [if_pos h, if_pos h]
    · rw [if_neg h, if_neg h]
      by_cases h2 : q - z < n
      · rw [sw_s_lt h2, sw_s_lt (show q - z < n + 1 by omega), hF _ h2, hT _ h2]
      · rw [sw_s_ge (by omega), sw_s_ge (show n + 1 ≤ q - z by omega)]
        rfl
theorem sw_df : ∀ ci, ci < 6 → ∀ z n, sp_df ci = sw_fd ci z n (fun _ => false) (fun _ => 0) := by
  intro ci h z n
  match ci, h with
  | 0, _ => rfl
  | 1, _ => rfl
  | 2, _ => rfl
  | 3, _ => rfl
  | 4, _ => rfl
  | 5, _ => rfl
def sw_obk (y idx : Nat) : Bool := match sp_T[y]? with
  | some e => decide ((sp_fd sp_coT e.2.2.2.2.2.1 idx).isSome = true ∧ 1 ≤ e.2.2.2.2.2.2.2.1 ∧ 24 ≤ e.2.2.2.2.2.2.2.2.1)
  | none => false
section SWE
variable {G : sp_G} {z n n' y pc c idx ci k a cl sl : Nat} {F F' : sw_F} {T T' : sw_T} {K : sw_K} {L L' : sp_L} {st : List Value} {M : sp_M} {Q : sp_R → sp_M → Prop}
theorem ga_ob {q : Nat} (d : sq_in y pc (.invokespecial idx) 3) (hk : sw_obk y idx = true) (h3 : sp_sum st ≤ 8) (kk : sq_go G y (pc + 3) L st M Q) : sq_go G y pc L (.ref q :: st) M Q := by
  unfold sw_obk at hk
  split at hk
  · rename_i e he
    obtain ⟨f1, f2, f3⟩ := of_decide_eq_true hk
    obtain ⟨w, hw⟩ := Option.isSome_iff_exists.mp f1
    refine go_i d (st' := st) (M' := M) ?_ kk
    unfold sq_cal
    rw [he]
    show sp_calI e idx (.ref q :: st) M = some (.inl (st, M))
    unfold sp_calI
    rw [hw]
    exact if_pos ⟨h3, f2, f3⟩
  · cases hk
theorem ga_new (d : sq_in y pc (.new idx) 3) (hc : sq_c y = c) (hf : sp_fd sp_nwT c idx = some ci) (hci : ci < 6) (hs : sw_L[n]? = some (ci + 10, 0)) (hn : n' = n + 1) (kk : sq_go G y (pc + 3) L (.ref (z + n) :: st) (sw_M z n' (sw_Fn F n) (sw_Tn T n) (some (z + n'), cl + 1, sl + sp_N ci)) Q) : sq_go G y pc L st (sw_M z n F T (some (z + n), cl, sl)) Q := by
  subst hn
  refine go_h d (st' := .ref (z + n) :: st) (M' := sw_M z (n + 1) (sw_Fn F n) (sw_Tn T n) (some (z + (n + 1)), cl + 1, sl + sp_N ci)) ?_ kk
  show sp_new (sq_c y) idx st (sw_M z n F T (some (z + n), cl, sl)) = _
  unfold sp_new
  rw [hc, hf]
  have h := sw_h_new (z := z) (F := F) (F' := sw_Fn F n) (T := T) (T' := sw_Tn T n) hs (fun a h => if_neg (by omega)) (fun a h => if_neg (by omega))
  show some (.ref (z + n) :: st, (some (z + n + 1), cl + 1, sl + sp_N ci, sp_up (sw_h z n F T) (z + n) (.inr (ci, sp_df ci)))) = some (_, (some (z + (n + 1)), cl + 1, sl + sp_N ci, sw_h z (n + 1) (sw_Fn F n) (sw_Tn T n)))
  rw [← h, sw_df ci hci z n, show sw_Fn F n n = (fun _ => false) from if_pos rfl, show sw_Tn T n n = (fun _ => 0) from if_pos rfl]
  show some (Value.ref (z + n) :: st, (some (z + n + 1), cl + 1, sl + sp_N ci, sp_up (sw_h z n F T) (z + n) (.inr (ci, sw_fd ci z n (fun _ => false) (fun _ => 0))))) = some (Value.ref (z + n) :: st, (some (z + n + 1), cl + 1, sl + sp_N ci, sp_up (sw_h z n F T) (z + n) (sw_ce z n (fun _ => false) (fun _ => 0) (ci + 10, 0))))
  have hce : sw_ce z n (fun _ => false) (fun _ => 0) (ci + 10, 0) = .inr (ci, sw_fd ci z n (fun _ => false) (fun _ => 0)) := by
    show Sum.inr (ci + 10 - 10, sw_fd (ci + 10 - 10) z n (fun _ => false) (fun _ => 0)) = _
    rw [show ci + 10 - 10 = ci by omega]
  rw [hce]
theorem ga_neax {at' : ArrayType} {m : Nat} (kd : Nat) (hkd : kd < 3) (hat : at' = (if kd = 0 then .int else if kd = 1 then .boolean else .char)) (d : sq_in y pc (.newarray at') 2) (hm : m ≤ 4000) (hs : sw_L[n]? = some (kd, m)) (hn : n' = n + 1) (kk : sq_go G y (pc + 2) L (.ref (z + n) :: st) (sw_M z n' F (sw_Tn T n) (some (z + n'), cl + 1, sl + m)) Q) : sq_go G y pc L (.int (Int32.ofInt m) :: st) (sw_M z n F T (some (z + n), cl, sl)) Q := by
  subst hn
  refine go_h d (st' := .ref (z + n) :: st) (M' := sw_M z (n + 1) F (sw_Tn T n) (some (z + (n + 1)), cl + 1, sl + m)) ?_ kk
  show sp_nea at' (Int32.ofInt m) st (sw_M z n F T (some (z + n), cl, sl)) = _
  have hm1 : (Int32.ofInt m).toNatClampNeg = m := by rw [sw_cn ⟨by omega, by omega⟩]; exact Int.toNat_natCast m
  have hm2 : ¬ (Int32.ofInt m) < 0 := by
    rw [Int32.lt_iff_toInt_lt, sw_ri ⟨by omega, by omega⟩]
    show ¬ (m : Int) < 0
    omega
  have h := sw_h_new (z := z) (F := F) (F' := F) (T := T) (T' := sw_Tn T n) hs (fun a h => rfl) (fun a h => if_neg (by omega))
  rw [show sw_Tn T n n = (fun _ => 0) from if_pos rfl] at h
  unfold sp_nea
  show (if ¬ (Int32.ofInt m) < 0 ∧ (Int32.ofInt m).toNatClampNeg ≤ 65536 then _ else none) = some (_, (some (z + (n + 1)), cl + 1, sl + m, sw_h z (n + 1) F (sw_Tn T n)))
  rw [if_pos ⟨hm2, by rw [hm1]; omega⟩, hm1, ← h]
  subst hat
  match kd, hkd with
  | 0, _ => rfl
  | 1, _ => rfl
  | 2, _ => rfl
theorem ga_neq {m : Nat} {w : Unit} (d : sq_in y pc (.anewarray idx) 3) (hc : sq_c y = c) (hf : sp_fd sp_anT c idx = some w) (hm : m ≤ 4000) (hs : sw_L[n]? = some (4, m)) (hn : n' = n + 1) (kk : sq_go G y (pc + 3) L (.ref (z + n) :: st) (sw_M z n' F (sw_Tn T n) (some (z + n'), cl + 1, sl + m)) Q) : sq_go G y pc L (.int (Int32.ofInt m) :: st) (sw_M z n F T (some (z + n), cl, sl)) Q := by
  subst hn
  refine go_h d (st' := .ref (z + n) :: st) (M' := sw_M z (n + 1) F (sw_Tn T n) (some (z + (n + 1)), cl + 1, sl + m)) ?_ kk
  show sp_neq (sq_c y) idx (Int32.ofInt m) st (sw_M z n F T (some (z + n), cl, sl)) = _
  have hm1 : (Int32.ofInt m).toNatClampNeg = m := by rw [sw_cn ⟨by omega, by omega⟩]; exact Int.toNat_natCast m
  have hm2 : ¬ (Int32.ofInt m) < 0 := by
    rw [Int32.lt_iff_toInt_lt, sw_ri ⟨by omega, by omega⟩]
    show ¬ (m : Int) < 0
    omega
  have h := sw_h_new (z := z) (F := F) (F' := F) (T := T) (T' := sw_Tn T n) hs (fun a h => rfl) (fun a h => if_neg (by omega))
  rw [show sw_Tn T n n = (fun _ => 0) from if_pos rfl] at h
  unfold sp_neq
  rw [hc, hf]
  show (if ¬ (Int32.ofInt m) < 0 ∧ (Int32.ofInt m).toNatClampNeg ≤ 65536 then _ else none) = some (_, (some (z + (n + 1)), cl + 1, sl + m, sw_h z (n + 1) F (sw_Tn T n)))
  rw [if_pos ⟨hm2, by rw [hm1]; omega⟩, hm1, ← h]
  rfl
theorem ga_nem {m k2 : Nat} {w : Unit} (d : sq_in y pc (.multianewarray idx 2) 4) (hc : sq_c y = c) (hf : sp_fd sp_muT c idx = some w) (hm : m ≤ 4000) (hk2 : k2 ≤ 4000) (hs : sw_L[n]? = some (5, m)) (hr : ∀ i, i < m → sw_L[n + 1 + i]? = some (0, k2)) (hn : n' = n + 1 + m) (kk : sq_go G y (pc + 4) L (.ref (z + n) :: st) (sw_M z n' F (sw_Tm T n m) (some (z + n'), cl + 1 + m, sl + m + m * k2)) Q) : sq_go G y pc L (.int (Int32.ofInt k2) :: .int (Int32.ofInt m) :: st) (sw_M z n F T (some (z + n), cl, sl)) Q := by
  subst hn
  refine go_h d (st' := .ref (z + n) :: st) (M' := sw_M z (n + 1 + m) F (sw_Tm T n m) (some (z + (n + 1 + m)), cl + 1 + m, sl + m + m * k2)) ?_ kk
  show sp_nem (sq_c y) idx (Int32.ofInt k2) (Int32.ofInt m) st (sw_M z n F T (some (z + n), cl, sl)) = _
  have hm1 : ∀ m : Nat, m ≤ 4000 → (Int32.ofInt m).toNatClampNeg = m := fun m hm => by rw [sw_cn ⟨by omega, by omega⟩]; exact Int.toNat_natCast m
  have hm2 : ∀ m : Nat, m ≤ 4000 → ¬ (Int32.ofInt m) < 0 := fun m hm => by
    rw [Int32.lt_iff_toInt_lt, sw_ri ⟨by omega, by omega⟩]
    show ¬ (m : Int) < 0
    omega
  have h : sp_mup (sw_h z n F T) (z + n) m k2 = sw_h z (n + 1 + m) F (sw_Tm T n m) := by
    funext q
    unfold sp_mup
    by_cases h1 : q = z + n
    · subst h1
      rw [if_pos rfl, sw_h_at (s := (5, m)) ((sw_s_lt (by omega)).trans hs)]
      have h9 : (fun i => if i < m then some (z + n + 1 + i) else none) = (fun k : Nat => if k < m then some (z + (n + 1 + k)) else none) := by
        funext i
        rw [show z + n + 1 + i = z + (n + 1 + i) by omega]
      rw [h9]
      rfl
    · rw [if_neg h1]
      by_cases h2 : z + n < q ∧ q < z + n + 1 + m
      · rw [if_pos h2]
        obtain ⟨i, rfl⟩ : ∃ i, q = z + (n + 1 + i) := ⟨q - (z + (n + 1)), by omega⟩
        rw [sw_h_at (s := (0, k2)) ((sw_s_lt (by omega)).trans (hr i (by omega)))]
        show some (Sum.inl (0, k2, Sum.inl (fun _ => 0))) = some (Sum.inl (0, k2, Sum.inl (fun k : Nat => Int32.ofInt (sw_Tm T n m (n + 1 + i) k))))
        rw [show sw_Tm T n m (n + 1 + i) = (fun _ => 0) from if_pos ⟨by omega, by omega⟩]
        rfl
      · rw [if_neg h2]
        unfold sw_h
        by_cases h3 : q < z
        · rw [if_pos h3, if_pos h3]
        · rw [if_neg h3, if_neg h3]
          by_cases h4 : q - z < n
          · rw [sw_s_lt h4, sw_s_lt (show q - z < n + 1 + m by omega), show sw_Tm T n m (q - z) = T (q - z) from if_neg (by omega)]
          · rw [sw_s_ge (by omega), sw_s_ge (show n + 1 + m ≤ q - z by omega)]
            rfl
  unfold sp_nem
  rw [hc, hf]
  show (if ¬ (Int32.ofInt m) < 0 ∧ (Int32.ofInt m).toNatClampNeg ≤ 65536 ∧ ¬ (Int32.ofInt k2) < 0 ∧ (Int32.ofInt k2).toNatClampNeg ≤ 65536 then _ else none) = some (_, (some (z + (n + 1 + m)), cl + 1 + m, sl + m + m * k2, sw_h z (n + 1 + m) F (sw_Tm T n m)))
  rw [if_pos ⟨hm2 _ hm, by rw [hm1 _ hm]; omega, hm2 _ hk2, by rw [hm1 _ hk2]; omega⟩, hm1 _ hm, hm1 _ hk2, ← h]
  show some (_, (some (z + n + 1 + m), _)) = some (_, (some (z + (n + 1 + m)), _))
  rw [show z + (n + 1 + m) = z + n + 1 + m by omega]
  rfl
theorem ga_pr {q : Nat} (d : sq_in y pc (.putfield idx) 3) (hc : sq_c y = c) (hf : sp_fd sp_flT c idx = some (ci, k)) {c10 : Nat} (hs : sw_s n a = some (c10, 0)) (hci : c10 = ci + 10) (hv : ∀ f t, sw_fd ci z a (sw_fs f k) t = (sw_fd ci z a f t).set k (.ref q) ∧ k + 1 ≤ (sw_fd ci z a f t).length) (hfit : sp_fit (sp_ty ci k) (.ref q) = true) (hfin : sq_ini y = true ∧ ci = c) (kk : sq_go G y (pc + 3) L st (sw_M z n (sw_Fs F a k) T K) Q) : sq_go G y pc L (.ref q :: .ref (z + a) :: st) (sw_M z n F T K) Q := by
  subst hci
  refine go_h d (st' := st) (M' := sw_M z n (sw_Fs F a k) T K) ?_ kk
  show sp_putf (sq_c y) (sq_ini y) idx (.ref q) (z + a) st (sw_M z n F T K) = _
  unfold sp_putf
  rw [hc, hf]
  rw [show (sw_M z n F T K).2.2.2 (z + a) = some (.inr (ci + 10 - 10, sw_fd (ci + 10 - 10) z a (F a) (T a))) from sw_h_at hs]
  have hcc : ci + 10 - 10 = ci := by omega
  show (if ci + 10 - 10 = ci ∧ k < (sw_fd (ci + 10 - 10) z a (F a) (T a)).length ∧ sp_fit (sp_ty ci k) (.ref q) = true ∧ ((sp_Tf ci k).2.2.2 = true → sq_ini y = true ∧ ci = c) then some (st, sp_set (sw_M z n F T K) (z + a) (.inr (ci, (sw_fd (ci + 10 - 10) z a (F a) (T a)).set k (.ref q)))) else none) = _
  rw [hcc, if_pos ⟨rfl, (hv (F a) (T a)).2, hfit, fun _ => hfin⟩, ← (hv (F a) (T a)).1]
  show some (st, (K.1, K.2.1, K.2.2, sp_up (sw_h z n F T) (z + a) (.inr (ci, sw_fd ci z a (sw_fs (F a) k) (T a))))) = some (st, (K.1, K.2.1, K.2.2, sw_h z n (sw_Fs F a k) T))
  have h : sp_up (sw_h z n F T) (z + a) (.inr (ci, sw_fd ci z a (sw_fs (F a) k) (T a))) = sw_h z n (sw_Fs F a k) T := by
    funext q'
    unfold sp_up
    by_cases hq : q' = z + a
    · subst hq
      rw [if_pos rfl, sw_h_at hs, show sw_Fs F a k a = sw_fs (F a) k from if_pos rfl]
      show _ = some (Sum.inr (ci + 10 - 10, sw_fd (ci + 10 - 10) z a (sw_fs (F a) k) (T a)))
      rw [hcc]
    · rw [if_neg hq]
      unfold sw_h
      by_cases h : q' < z
      · rw [if_pos h, if_pos h]
      · rw [if_neg h, if_neg h, show sw_Fs F a k (q' - z) = F (q' - z) from if_neg (by omega)]
  rw [h]
end SWE
