/-! ===== the steps of the abstract machine over a table ===== -/
section SWA
variable {G : sp_G} {z n y pc len c idx ci k a m : Nat} {F : sw_F} {T T' : sw_T} {K : sw_K} {L L' : sp_L} {st : List Value} {Q : sp_R → sp_M → Prop}
theorem ga_gf (d : sq_in y pc (.getfield idx) 3) (hc : sq_c y = c) (hf : (sp_fd sp_flT c idx).or (sp_fd sp_fnT c idx) = some (ci, k)) {c10 : Nat} (hs : sw_s n a = some (c10, 0)) (hci : c10 = ci + 10) {v : Value} (hv : (sw_fd ci z a (F a) (T a))[k]? = some v) (kk : sq_go G y (pc + 3) L (v :: st) (sw_M z n F T K) Q) : sq_go G y pc L (.ref (z + a) :: st) (sw_M z n F T K) Q := by
  subst hci
  refine go_h d (st' := v :: st) (M' := sw_M z n F T K) ?_ kk
  show sp_getf (sq_c y) idx (z + a) st (sw_M z n F T K) = _
  unfold sp_getf
  rw [hc, hf]
  rw [show (sw_M z n F T K).2.2.2 (z + a) = some (.inr (ci + 10 - 10, sw_fd (ci + 10 - 10) z a (F a) (T a))) from sw_h_at hs]
  show (if ci + 10 - 10 = ci then _ else _) = _
  rw [if_pos (by omega)]
  show ((sw_fd (ci + 10 - 10) z a (F a) (T a))[k]?).map (fun v => (v :: st, sw_M z n F T K)) = _
  rw [show ci + 10 - 10 = ci by omega, hv]
  rfl
/-- a field of numbers: what a write of it comes to -/
def sw_ifd (ci k : Nat) (v : Value) (u : Int) : Prop := (∀ z a f t, sw_fd ci z a f (sw_ui t k u) = (sw_fd ci z a f t).set k v ∧ k < (sw_fd ci z a f t).length) ∧ sp_fit (sp_ty ci k) v = true ∧ (sp_Tf ci k).2.2.2 = false
theorem ga_pfx (d : sq_in y pc (.putfield idx) 3) (hc : sq_c y = c) (hf : sp_fd sp_flT c idx = some (ci, k)) {c10 : Nat} (hs : sw_s n a = some (c10, 0)) (hci : c10 = ci + 10) {v : Value} {u : Int} (hv : sw_ifd ci k v u) (kk : sq_go G y (pc + 3) L st (sw_M z n F (sw_up T a k u) K) Q) : sq_go G y pc L (v :: .ref (z + a) :: st) (sw_M z n F T K) Q := by
  subst hci
  obtain ⟨h1, h2, h3⟩ := hv
  refine go_h d (st' := st) (M' := sw_M z n F (sw_up T a k u) K) ?_ kk
  show sp_putf (sq_c y) (sq_ini y) idx v (z + a) st (sw_M z n F T K) = _
  unfold sp_putf
  rw [hc, hf]
  rw [show (sw_M z n F T K).2.2.2 (z + a) = some (.inr (ci + 10 - 10, sw_fd (ci + 10 - 10) z a (F a) (T a))) from sw_h_at hs]
  have hcc : ci + 10 - 10 = ci := by omega
  show (if ci + 10 - 10 = ci ∧ k < (sw_fd (ci + 10 - 10) z a (F a) (T a)).length ∧ sp_fit (sp_ty ci k) v = true ∧ ((sp_Tf ci k).2.2.2 = true → sq_ini y = true ∧ ci = c) then some (st, sp_set (sw_M z n F T K) (z + a) (.inr (ci, (sw_fd (ci + 10 - 10) z a (F a) (T a)).set k v))) else none) = _
  rw [hcc, if_pos ⟨rfl, (h1 z a (F a) (T a)).2, h2, fun h => by rw [h3] at h; cases h⟩, ← (h1 z a (F a) (T a)).1]
  have h4 := sw_h_up (z := z) (n := n) (F := F) (T := T) (T' := sw_up T a k u) hs (fun a' h => sw_up_ne h)
  rw [sw_up_eq] at h4
  show some (st, (K.1, K.2.1, K.2.2, sp_up (sw_h z n F T) (z + a) (.inr (ci, sw_fd ci z a (F a) (sw_ui (T a) k u))))) = some (st, (K.1, K.2.1, K.2.2, sw_h z n F (sw_up T a k u)))
  rw [← h4]
  show some (st, (K.1, K.2.1, K.2.2, sp_up (sw_h z n F T) (z + a) (.inr (ci, sw_fd ci z a (F a) (sw_ui (T a) k u))))) = some (st, (K.1, K.2.1, K.2.2, sp_up (sw_h z n F T) (z + a) (.inr (ci + 10 - 10, sw_fd (ci + 10 - 10) z a (F a) (sw_ui (T a) k u)))))
  rw [hcc]
theorem ga_ildx {i : Instr} (q : Nat) (hq : q < 3) (hi : ∀ (j : Int32) (b : Nat) (M : sp_M), sp_hp G (sq_c y) (sq_ini y) i 1 (.int j :: .ref b :: st) M = sp_ild G q j b st M) (hg : sp_gr i = 4) (d : sq_in y pc i 1) (hs : sw_s n a = some (q, m)) {j v : Int} (e : sw_ld T a m j = some v) (hm : m ≤ 4000) (kk : sq_go G y (pc + 1) L (.int (Int32.ofInt v) :: st) (sw_M z n F T K) Q) : sq_go G y pc L (.int (Int32.ofInt j) :: .ref (z + a) :: st) (sw_M z n F T K) Q := by
  obtain ⟨hj, rfl⟩ := sw_gd e
  refine go_h d (st' := .int (Int32.ofInt (T a j)) :: st) (M' := sw_M z n F T K) ?_ kk hg
  rw [hi]
  unfold sp_ild
  match q, hq with
  | 0, _ =>
    rw [show (sw_M z n F T K).2.2.2 (z + a) = some (.inl (0, m, .inl (fun k : Nat => Int32.ofInt (T a k)))) from sw_h_at hs]
    show (if 0 = 0 ∧ sp_in (Int32.ofInt j) m = true then some (.int (Int32.ofInt (T a ((Int32.ofInt j).toNatClampNeg : Nat))) :: st, sw_M z n F T K) else none) = _
    rw [if_pos ⟨rfl, sw_in hj hm⟩, sw_cn ⟨hj.1, by omega⟩, Int.toNat_of_nonneg hj.1]
  | 1, _ =>
    rw [show (sw_M z n F T K).2.2.2 (z + a) = some (.inl (1, m, .inl (fun k : Nat => Int32.ofInt (T a k)))) from sw_h_at hs]
    show (if 1 = 1 ∧ sp_in (Int32.ofInt j) m = true then some (.int (Int32.ofInt (T a ((Int32.ofInt j).toNatClampNeg : Nat))) :: st, sw_M z n F T K) else none) = _
    rw [if_pos ⟨rfl, sw_in hj hm⟩, sw_cn ⟨hj.1, by omega⟩, Int.toNat_of_nonneg hj.1]
  | 2, _ =>
    rw [show (sw_M z n F T K).2.2.2 (z + a) = some (.inl (2, m, .inl (fun k : Nat => Int32.ofInt (T a k)))) from sw_h_at hs]
    show (if 2 = 2 ∧ sp_in (Int32.ofInt j) m = true then some (.int (Int32.ofInt (T a ((Int32.ofInt j).toNatClampNeg : Nat))) :: st, sw_M z n F T K) else none) = _
    rw [if_pos ⟨rfl, sw_in hj hm⟩, sw_cn ⟨hj.1, by omega⟩, Int.toNat_of_nonneg hj.1]
theorem ga_iald (d : sq_in y pc .iaload 1) (hs : sw_s n a = some (0, m)) {j v : Int} (e : sw_ld T a m j = some v) (kk : sq_go G y (pc + 1) L (.int (Int32.ofInt v) :: st) (sw_M z n F T K) Q) (hm : m ≤ 4000 := by decide) : sq_go G y pc L (.int (Int32.ofInt j) :: .ref (z + a) :: st) (sw_M z n F T K) Q :=
  ga_ildx 0 (by decide) (fun _ _ _ => rfl) rfl d hs e hm kk
theorem ga_bald (d : sq_in y pc .baload 1) (hs : sw_s n a = some (1, m)) {j v : Int} (e : sw_ld T a m j = some v) (kk : sq_go G y (pc + 1) L (.int (Int32.ofInt v) :: st) (sw_M z n F T K) Q) (hm : m ≤ 4000 := by decide) : sq_go G y pc L (.int (Int32.ofInt j) :: .ref (z + a) :: st) (sw_M z n F T K) Q :=
  ga_ildx 1 (by decide) (fun _ _ _ => rfl) rfl d hs e hm kk
theorem ga_cald (d : sq_in y pc .caload 1) (hs : sw_s n a = some (2, m)) {j v : Int} (e : sw_ld T a m j = some v) (kk : sq_go G y (pc + 1) L (.int (Int32.ofInt v) :: st) (sw_M z n F T K) Q) (hm : m ≤ 4000 := by decide) : sq_go G y pc L (.int (Int32.ofInt j) :: .ref (z + a) :: st) (sw_M z n F T K) Q :=
  ga_ildx 2 (by decide) (fun _ _ _ => rfl) rfl d hs e hm kk
theorem sw_updf {t : Int → Int} {j u : Int} (hj : 0 ≤ j) : upd (fun k : Nat => Int32.ofInt (t k)) j.toNat (Int32.ofInt u) = fun k : Nat => Int32.ofInt (sw_ui t j u k) := by
  funext k
  unfold upd sw_ui
  by_cases h : k = j.toNat
  · subst h
    rw [if_pos rfl, if_pos (Int.toNat_of_nonneg hj)]
  · rw [if_neg h, if_neg (by omega)]
theorem ga_istx {i : Instr} (q : Nat) (hq : q < 3) (nar : Int32 → Int32) (hi : ∀ (x j : Int32) (b : Nat) (M : sp_M), sp_hp G (sq_c y) (sq_ini y) i 1 (.int x :: .int j :: .ref b :: st) M = sp_ist q nar x j b st M) (hg : sp_gr i = 4) (d : sq_in y pc i 1) (hs : sw_s n a = some (q, m)) {j v : Int} (hj : 0 ≤ j ∧ j < m) (hn : nar (Int32.ofInt v) = Int32.ofInt v) (hm : m ≤ 4000) (kk : sq_go G y (pc + 1) L st (sw_M z n F (sw_up T a j v) K) Q) : sq_go G y pc L (.int (Int32.ofInt v) :: .int (Int32.ofInt j) :: .ref (z + a) :: st) (sw_M z n F T K) Q := by
  refine go_h d (st' := st) (M' := sw_M z n F (sw_up T a j v) K) ?_ kk hg
  rw [hi]
  unfold sp_ist
  have h4 := sw_h_up (z := z) (n := n) (F := F) (T := T) (T' := sw_up T a j v) hs (fun a' h => sw_up_ne h)
  rw [sw_up_eq] at h4
  rw [hn, sw_cn ⟨hj.1, by omega⟩]
  show _ = some (st, (K.1, K.2.1, K.2.2, sw_h z n F (sw_up T a j v)))
  rw [← h4]
  match q, hq with
  | 0, _ =>
    rw [show (sw_M z n F T K).2.2.2 (z + a) = some (.inl (0, m, .inl (fun k : Nat => Int32.ofInt (T a k)))) from sw_h_at hs]
    show (if 0 = 0 ∧ sp_in (Int32.ofInt j) m = true then some (st, (K.1, K.2.1, K.2.2, sp_up (sw_h z n F T) (z + a) (.inl (0, m, .inl (upd (fun k : Nat => Int32.ofInt (T a k)) j.toNat (Int32.ofInt v)))))) else none) = _
    rw [if_pos ⟨rfl, sw_in hj hm⟩, sw_updf hj.1]
    rfl
  | 1, _ =>
    rw [show (sw_M z n F T K).2.2.2 (z + a) = some (.inl (1, m, .inl (fun k : Nat => Int32.ofInt (T a k)))) from sw_h_at hs]
    show (if 1 = 1 ∧ sp_in (Int32.ofInt j) m = true then some (st, (K.1, K.2.1, K.2.2, sp_up (sw_h z n F T) (z + a) (.inl (1, m, .inl (upd (fun k : Nat => Int32.ofInt (T a k)) j.toNat (Int32.ofInt v)))))) else none) = _
    rw [if_pos ⟨rfl, sw_in hj hm⟩, sw_updf hj.1]
    rfl
  | 2, _ =>
    rw [show (sw_M z n F T K).2.2.2 (z + a) = some (.inl (2, m, .inl (fun k : Nat => Int32.ofInt (T a k)))) from sw_h_at hs]
    show (if 2 = 2 ∧ sp_in (Int32.ofInt j) m = true then some (st, (K.1, K.2.1, K.2.2, sp_up (sw_h z n F T) (z + a) (.inl (2, m, .inl (upd (fun k : Nat => Int32.ofInt (T a k)) j.toNat (Int32.ofInt v)))))) else none) = _
    rw [if_pos ⟨rfl, sw_in hj hm⟩, sw_updf hj.1]
    rfl
theorem ga_iast (d : sq_in y pc .iastore 1) (hs : sw_s n a = some (0, m)) {j v : Int} (e : sw_st T a m j v = some T') (kk : sq_go G y (pc + 1) L st (sw_M z n F T' K) Q) (hm : m ≤ 4000 := by decide) : sq_go G y pc L (.int (Int32.ofInt v) :: .int (Int32.ofInt j) :: .ref (z + a) :: st) (sw_M z n F T K) Q := by
  obtain ⟨hj, rfl⟩ := sw_gd e
  exact ga_istx 0 (by decide) (fun x => x) (fun _ _ _ _ => rfl) rfl d hs hj rfl hm kk
theorem ga_bast (d : sq_in y pc .bastore 1) (hs : sw_s n a = some (1, m)) {j v : Int} (e : sw_sb T a m j v = some T') (kk : sq_go G y (pc + 1) L st (sw_M z n F T' K) Q) (hm : m ≤ 4000 := by decide) : sq_go G y pc L (.int (Int32.ofInt v) :: .int (Int32.ofInt j) :: .ref (z + a) :: st) (sw_M z n F T K) Q := by
  obtain ⟨⟨hj, hv⟩, rfl⟩ := sw_gd e
  exact ga_istx 1 (by decide) (vp_nar .boolean) (fun _ _ _ _ => rfl) rfl d hs hj (by rcases hv with rfl | rfl <;> decide) hm kk
theorem sw_nch0 {w : Nat} (hw : w < 65536) : ((Int32.ofInt w).toUInt32 % 65536).toInt32 = Int32.ofInt w := by
  have h : (Int32.ofInt w).toUInt32 = UInt32.ofNat w := by
    rw [Int32.ofInt_eq_ofNat]
    rfl
  rw [h]
  have h2 : UInt32.ofNat w % 65536 = UInt32.ofNat w := by
    apply UInt32.toNat_inj.mp
    rw [UInt32.toNat_mod, UInt32.toNat_ofNat_of_lt' (by show w < 2 ^ 32; omega)]
    exact Nat.mod_eq_of_lt hw
  rw [h2, Int32.ofInt_eq_ofNat]
  rfl
theorem sw_nch {v : Int} (h : 0 ≤ v ∧ v < 65536) : vp_nar .char (Int32.ofInt v) = Int32.ofInt v := by
  obtain ⟨w, rfl⟩ := Int.eq_ofNat_of_zero_le h.1
  exact sw_nch0 (by omega)
theorem ga_cast (d : sq_in y pc .castore 1) (hs : sw_s n a = some (2, m)) {j v : Int} (e : sw_sc T a m j v = some T') (kk : sq_go G y (pc + 1) L st (sw_M z n F T' K) Q) (hm : m ≤ 4000 := by decide) : sq_go G y pc L (.int (Int32.ofInt v) :: .int (Int32.ofInt j) :: .ref (z + a) :: st) (sw_M z n F T K) Q := by
  obtain ⟨⟨hj, hv⟩, rfl⟩ := sw_gd e
  exact ga_istx 2 (by decide) (vp_nar .char) (fun _ _ _ _ => rfl) rfl d hs hj (sw_nch hv) hm kk
theorem ga_row (d : sq_in y pc .aaload 1) (hs : sw_s n a = some (5, m)) {j : Int} {u : Nat} (e : sw_rw m j = some u) (kk : sq_go G y (pc + 1) L (.ref (z + (a + 1 + u)) :: st) (sw_M z n F T K) Q) (hm : m ≤ 4000 := by decide) : sq_go G y pc L (.int (Int32.ofInt j) :: .ref (z + a) :: st) (sw_M z n F T K) Q := by
  obtain ⟨hj, rfl⟩ := sw_gd e
  refine go_h d (st' := .ref (z + (a + 1 + j.toNat)) :: st) (M' := sw_M z n F T K) ?_ kk
  show sp_ald (Int32.ofInt j) (z + a) st (sw_M z n F T K) = _
  unfold sp_ald
  rw [show (sw_M z n F T K).2.2.2 (z + a) = some (.inl (5, m, .inr (.inr (.inr (.inr (fun k => if k < m then some (z + (a + 1 + k)) else none)))))) from sw_h_at hs]
  rw [sw_cn ⟨hj.1, by omega⟩]
  show (if (5 = 4 ∨ 5 = 5) ∧ sp_in (Int32.ofInt j) m = true then some (va_rf (if j.toNat < m then some (z + (a + 1 + j.toNat)) else none) :: st, sw_M z n F T K) else none) = _
  rw [if_pos ⟨.inr rfl, sw_in hj hm⟩, if_pos (by omega)]
  rfl
theorem sw_rm_pos : ∀ r ∈ sw_rm, r ≠ 0 := by decide
theorem ga_lrm (d : sq_in y pc .aaload 1) (hs : sw_s n a = some (4, m)) {j : Int} {r : Nat} (e : sw_lr T a m j = some r) (kk : r ∈ sw_rm → sq_go G y (pc + 1) L (.ref (z + r) :: st) (sw_M z n F T K) Q) (hm : m ≤ 4000 := by decide) : sq_go G y pc L (.int (Int32.ofInt j) :: .ref (z + a) :: st) (sw_M z n F T K) Q := by
  obtain ⟨⟨hj, h0, hr⟩, rfl⟩ := sw_gd e
  refine go_h d (st' := .ref (z + (T a j).toNat) :: st) (M' := sw_M z n F T K) ?_ (kk hr)
  show sp_ald (Int32.ofInt j) (z + a) st (sw_M z n F T K) = _
  unfold sp_ald
  have h1 := sw_rm_pos _ hr
  rw [show (sw_M z n F T K).2.2.2 (z + a) = some (.inl (4, m, .inr (.inr (.inr (.inr (fun k : Nat => if T a k = 0 then none else some (z + (T a k).toNat))))))) from sw_h_at hs]
  rw [sw_cn ⟨hj.1, by omega⟩]
  show (if (4 = 4 ∨ 4 = 5) ∧ sp_in (Int32.ofInt j) m = true then some (va_rf (if T a (j.toNat : Nat) = 0 then none else some (z + (T a (j.toNat : Nat)).toNat)) :: st, sw_M z n F T K) else none) = _
  rw [if_pos ⟨.inl rfl, sw_in hj hm⟩, Int.toNat_of_nonneg hj.1, if_neg (by intro h; rw [h] at h1; exact h1 rfl)]
  rfl
theorem ga_srm (d : sq_in y pc .aastore 1) (hs : sw_s n a = some (4, m)) {j : Int} {r : Nat} (hr : sw_s n r = some (13, 0)) (hr0 : r ≠ 0) (e : sw_sr T a m j r = some T') (kk : sq_go G y (pc + 1) L st (sw_M z n F T' K) Q) (hm : m ≤ 4000 := by decide) : sq_go G y pc L (.ref (z + r) :: .int (Int32.ofInt j) :: .ref (z + a) :: st) (sw_M z n F T K) Q := by
  obtain ⟨hj, rfl⟩ := sw_gd e
  refine go_h d (st' := st) (M' := sw_M z n F (sw_up T a j r) K) ?_ kk
  show sp_ast (z + r) (Int32.ofInt j) (z + a) st (sw_M z n F T K) = _
  unfold sp_ast
  have h4 := sw_h_up (z := z) (n := n) (F := F) (T := T) (T' := sw_up T a j r) hs (fun a' h => sw_up_ne h)
  rw [sw_up_eq] at h4
  rw [show (sw_M z n F T K).2.2.2 (z + a) = some (.inl (4, m, .inr (.inr (.inr (.inr (fun k : Nat => if T a k = 0 then none else some (z + (T a k).toNat))))))) from sw_h_at hs]
  rw [show (sw_M z n F T K).2.2.2 (z + r) = some (.inr (3, sw_fd 3 z r (F r) (T r))) from sw_h_at hr]
  rw [sw_cn ⟨hj.1, by omega⟩]
  show (if 4 = 4 ∧ sp_in (Int32.ofInt j) m = true then some (st, (K.1, K.2.1, K.2.2, sp_up (sw_h z n F T) (z + a) (.inl (4, m, .inr (.inr (.inr (.inr (va_up (fun k : Nat => if T a k = 0 then none else some (z + (T a k).toNat)) j.toNat (some (z + r)))))))))) else none) = some (st, (K.1, K.2.1, K.2.2, sw_h z n F (sw_up T a j r)))
  rw [if_pos ⟨rfl, sw_in hj hm⟩, ← h4]
  have h5 : va_up (fun k : Nat => if T a k = 0 then none else some (z + (T a k).toNat)) j.toNat (some (z + r)) = fun k : Nat => if sw_ui (T a) j r k = 0 then none else some (z + (sw_ui (T a) j r k).toNat) := by
    funext k
    unfold va_up sw_ui
    by_cases h : k = j.toNat
    · subst h
      rw [if_pos rfl, if_pos (Int.toNat_of_nonneg hj.1), if_neg (by omega), Int.toNat_natCast]
    · have h' : ¬ (k : Int) = j := by omega
      rw [if_neg h, if_neg h']
  rw [h5]
  rfl
theorem sw_updl {t : Int → Int} {j u : Int} (hj : 0 ≤ j) : vp_updL (fun k : Nat => Int64.ofInt (t k)) j.toNat (Int64.ofInt u) = fun k : Nat => Int64.ofInt (sw_ui t j u k) := by
  funext k
  unfold vp_updL sw_ui
  by_cases h : k = j.toNat
  · subst h
    rw [if_pos rfl, if_pos (Int.toNat_of_nonneg hj)]
  · rw [if_neg h, if_neg (by omega)]
theorem ga_al (d : sq_in y pc .arraylength 1) (hs : sw_s n a = some (0, m)) (kk : sq_go G y (pc + 1) L (.int (Int32.ofInt m) :: st) (sw_M z n F T K) Q) : sq_go G y pc L (.ref (z + a) :: st) (sw_M z n F T K) Q := by
  refine go_h d (st' := .int (Int32.ofInt m) :: st) (M' := sw_M z n F T K) ?_ kk
  show sp_len G (z + a) st (sw_M z n F T K) = _
  unfold sp_len
  rw [show (sw_M z n F T K).2.2.2 (z + a) = some (.inl (0, m, .inl (fun k : Nat => Int32.ofInt (T a k)))) from sw_h_at hs]
  show (if 0 < 6 then some (.int (Int32.ofNat m) :: st, sw_M z n F T K) else none) = _
  rw [if_pos (by decide), Int32.ofInt_eq_ofNat]
theorem ga_alG (d : sq_in y pc .arraylength 1) (hz : G.1 < z) (kk : sq_go G y (pc + 1) L (.int (Int32.ofInt G.2.1) :: st) (sw_M z n F T K) Q) : sq_go G y pc L (.ref G.1 :: st) (sw_M z n F T K) Q := by
  refine go_h d (st' := .int (Int32.ofInt G.2.1) :: st) (M' := sw_M z n F T K) ?_ kk
  show sp_len G G.1 st (sw_M z n F T K) = _
  unfold sp_len
  rw [show (sw_M z n F T K).2.2.2 G.1 = none from sw_h_lo hz]
  show (if G.1 = G.1 then some (.int (Int32.ofNat G.2.1) :: st, sw_M z n F T K) else none) = _
  rw [if_pos rfl, Int32.ofInt_eq_ofNat]
/-- the script's numbers -/
def sw_xs (G : sp_G) (j : Int) : Int := (G.2.2.1 j.toNat).toInt
def sw_ix (m : Nat) (j : Int) : Option Unit := if 0 ≤ j ∧ j < m then some () else none
theorem ga_ldG (d : sq_in y pc .iaload 1) (hz : G.1 < z) (hL : G.2.1 ≤ 1536) {j : Int} {u : Unit} (e : sw_ix G.2.1 j = some u) (kk : sq_go G y (pc + 1) L (.int (Int32.ofInt (sw_xs G j)) :: st) (sw_M z n F T K) Q) : sq_go G y pc L (.int (Int32.ofInt j) :: .ref G.1 :: st) (sw_M z n F T K) Q := by
  obtain ⟨hj, -⟩ := sw_gd e
  refine go_h d (st' := .int (Int32.ofInt (sw_xs G j)) :: st) (M' := sw_M z n F T K) ?_ kk
  show sp_ild G 0 (Int32.ofInt j) G.1 st (sw_M z n F T K) = _
  unfold sp_ild
  rw [show (sw_M z n F T K).2.2.2 G.1 = none from sw_h_lo hz]
  show (if 0 = 0 then (if G.1 = G.1 then (if sp_in (Int32.ofInt j) G.2.1 = true then some (.int (G.2.2.1 (Int32.ofInt j).toNatClampNeg) :: st, sw_M z n F T K) else none) else _) else _) = _
  rw [if_pos rfl, if_pos rfl, if_pos (sw_in hj (by omega)), sw_cn ⟨hj.1, by omega⟩]
  unfold sw_xs
  rw [Int32.ofInt_toInt]
/-- the two rows of the class's settings -/
def sw_gs (G : sp_G) (k : Nat) : Nat := if k = 0 then G.2.2.2.1 else G.2.2.2.2
def sw_gv (k : Nat) (j : Int) : Int := if k = 0 then (if j = 0 then 2 else if j = 1 then 0 else 1) else (if j = 0 then 99 else if j = 1 then 2 else 20)
/-- what is known of the cells that were there before -/
def sw_G (G : sp_G) (z : Nat) : Prop := G.2.1 ≤ 1536 ∧ G.1 < z ∧ G.2.2.2.1 < z ∧ G.2.2.2.2 < z ∧ G.2.2.2.2 ≠ G.2.2.2.1 ∧ (∀ k, k < 2 → sw_gs G k = G.1 → G.2.1 = 3 ∧ ∀ j, j < 3 → G.2.2.1 j = sp_f1 k j)
theorem ga_gs (d : sq_in y pc (.getstatic idx) 3) (hc : sq_c y = c) (hf : sp_fd sp_stT c idx = some k) (kk : sq_go G y (pc + 3) L (.ref (sw_gs G k) :: st) (sw_M z n F T K) Q) : sq_go G y pc L st (sw_M z n F T K) Q := by
  refine go_h d (st' := .ref (sw_gs G k) :: st) (M' := sw_M z n F T K) ?_ kk
  show (sp_fd sp_stT (sq_c y) idx).map (fun k => (Value.ref (if k = 0 then G.2.2.2.1 else G.2.2.2.2) :: st, sw_M z n F T K)) = _
  rw [hc, hf]
  rfl
theorem ga_ldS (d : sq_in y pc .iaload 1) (hG : sw_G G z) (hk : k < 2) {j : Int} {u : Unit} (e : sw_ix 3 j = some u) (kk : sq_go G y (pc + 1) L (.int (Int32.ofInt (sw_gv k j)) :: st) (sw_M z n F T K) Q) : sq_go G y pc L (.int (Int32.ofInt j) :: .ref (sw_gs G k) :: st) (sw_M z n F T K) Q := by
  obtain ⟨hj, -⟩ := sw_gd e
  obtain ⟨h1, h2, h3, h4, h5, h6⟩ := hG
  have hj3 : j < 3 := hj.2
  refine go_h d (st' := .int (Int32.ofInt (sw_gv k j)) :: st) (M' := sw_M z n F T K) ?_ kk
  show sp_ild G 0 (Int32.ofInt j) (sw_gs G k) st (sw_M z n F T K) = _
  unfold sp_ild
  have hlo : sw_gs G k < z := by unfold sw_gs; split <;> assumption
  rw [show (sw_M z n F T K).2.2.2 (sw_gs G k) = none from sw_h_lo hlo]
  have hv : Int32.ofInt (sw_gv k j) = sp_f1 k j.toNat := by
    obtain ⟨w, rfl⟩ := Int.eq_ofNat_of_zero_le hj.1
    have hw : w < 3 := by omega
    match k, hk, w, hw with
    | 0, _, 0, _ => rfl
    | 0, _, 1, _ => rfl
    | 0, _, 2, _ => rfl
    | 1, _, 0, _ => rfl
    | 1, _, 1, _ => rfl
    | 1, _, 2, _ => rfl
  have hin := sw_in (j := j) (m := 3) hj (by decide)
  show (if 0 = 0 then (if sw_gs G k = G.1 then (if sp_in (Int32.ofInt j) G.2.1 = true then some (.int (G.2.2.1 (Int32.ofInt j).toNatClampNeg) :: st, sw_M z n F T K) else none) else if sw_gs G k = G.2.2.2.1 then (if sp_in (Int32.ofInt j) 3 = true then some (.int (sp_f1 0 (Int32.ofInt j).toNatClampNeg) :: st, sw_M z n F T K) else none) else if sw_gs G k = G.2.2.2.2 then (if sp_in (Int32.ofInt j) 3 = true then some (.int (sp_f1 1 (Int32.ofInt j).toNatClampNeg) :: st, sw_M z n F T K) else none) else none) else none) = _
  rw [if_pos rfl, sw_cn ⟨hj.1, by omega⟩, hv]
  by_cases hG1 : sw_gs G k = G.1
  · obtain ⟨h7, h8⟩ := h6 k hk hG1
    rw [if_pos hG1, h7, if_pos hin, h8 _ (by omega)]
  · rw [if_neg hG1]
    match k, hk with
    | 0, _ => rw [if_pos (show sw_gs G 0 = G.2.2.2.1 from rfl), if_pos hin]
    | 1, _ => rw [if_neg (show ¬ sw_gs G 1 = G.2.2.2.1 from h5), if_pos (show sw_gs G 1 = G.2.2.2.2 from rfl), if_pos hin]
end SWA
