/-! ===== numbers alone: the steps' conditions, sums, counts ===== -/
theorem wb_ld {T : sw_T} {a m : Nat} {j : Int} (h : 0 ≤ j ∧ j < m) : sw_ld T a m j = some (T a j) := if_pos h
theorem wb_st {T : sw_T} {a m : Nat} {j v : Int} (h : 0 ≤ j ∧ j < m) : sw_st T a m j v = some (sw_up T a j v) := if_pos h
theorem wb_sb {T : sw_T} {a m : Nat} {j v : Int} (h : 0 ≤ j ∧ j < m) (hv : v = 0 ∨ v = 1) : sw_sb T a m j v = some (sw_up T a j v) := if_pos ⟨h, hv⟩
theorem wb_r1 {a : Int} (h : -2147483648 ≤ a ∧ a < 2147483648) : sw_r1 a = some () := if_pos h
theorem wb_r2 {a b : Int} (h : -2147483648 ≤ a ∧ a < 2147483648) (h2 : -2147483648 ≤ b ∧ b < 2147483648) : sw_r2 a b = some () := if_pos ⟨h, h2⟩
theorem wb_rw {m : Nat} {j : Int} (h : 0 ≤ j ∧ j < m) : sw_rw m j = some j.toNat := if_pos h
theorem wb_dv {a b : Int} (h : (0 ≤ a ∧ a < 2147483648) ∧ (0 < b ∧ b < 2147483648)) : sw_dv a b = some () := if_pos h
theorem wb_pf {T : sw_T} {a : Nat} {k v : Int} : sw_pf T a k v = some (sw_up T a k v) := rfl
theorem wb_pb {T : sw_T} {a : Nat} {k v : Int} (h : v = 0 ∨ v = 1) : sw_pb T a k v = some (sw_up T a k v) := if_pos h
theorem wb_b1 {v : Int} (h : v = 0 ∨ v = 1) : sw_b1 v = some () := if_pos h
/-- the sum over the seven seats -/
def wb_s7 (f : Int → Int) : Int := f 0 + f 1 + f 2 + f 3 + f 4 + f 5 + f 6
theorem wb_seat {who : Int} (h : 0 ≤ who ∧ who < 7) : who = 0 ∨ who = 1 ∨ who = 2 ∨ who = 3 ∨ who = 4 ∨ who = 5 ∨ who = 6 := by omega
theorem wb_s7_ui {f : Int → Int} {who v : Int} (h : 0 ≤ who ∧ who < 7) : wb_s7 (sw_ui f who v) = wb_s7 f - f who + v := by
  unfold wb_s7 sw_ui
  rcases wb_seat h with rfl | rfl | rfl | rfl | rfl | rfl | rfl <;> simp <;> omega
/-- how many of the first k numbers are c -/
def wb_ct (f : Int → Int) (c : Int) : Nat → Int
  | 0 => 0
  | k + 1 => wb_ct f c k + (if f k = c then 1 else 0)
theorem wb_ct_out {f : Int → Int} {c s v : Int} : ∀ k : Nat, (k : Int) ≤ s ∨ s < 0 → wb_ct (sw_ui f s v) c k = wb_ct f c k := by
  intro k
  induction k with
  | zero => intro _; rfl
  | succ k ih =>
    intro h
    unfold wb_ct
    rw [ih (by omega)]
    have : sw_ui f s v k = f k := if_neg (by omega)
    rw [this]
theorem wb_ct_ui {f : Int → Int} {c s v : Int} : ∀ k : Nat, 0 ≤ s → s < k → wb_ct (sw_ui f s v) c k = wb_ct f c k - (if f s = c then 1 else 0) + (if v = c then 1 else 0) := by
  intro k
  induction k with
  | zero => intro h1 h2; omega
  | succ k ih =>
    intro h1 h2
    unfold wb_ct
    by_cases hs : s = k
    · subst hs
      rw [wb_ct_out k (Or.inl (Int.le_refl _))]
      have : sw_ui f k v k = v := if_pos rfl
      rw [this]
      omega
    · rw [ih h1 (by omega)]
      have : sw_ui f s v k = f k := if_neg (by omega)
      rw [this]
      omega
theorem wb_ct_le {f : Int → Int} {c : Int} : ∀ k : Nat, 0 ≤ wb_ct f c k ∧ wb_ct f c k ≤ k := by
  intro k
  induction k with
  | zero => exact ⟨Int.le_refl _, Int.le_refl _⟩
  | succ k ih =>
    unfold wb_ct
    split <;> omega
theorem wb_ct_all {f : Int → Int} : ∀ k : Nat, (∀ j : Nat, j < k → f j = 0 ∨ f j = 1 ∨ f j = 2) → wb_ct f 0 k + wb_ct f 1 k + wb_ct f 2 k = k := by
  intro k
  induction k with
  | zero => intro _; rfl
  | succ k ih =>
    intro h
    have h1 := ih (fun j hj => h j (by omega))
    unfold wb_ct
    rcases h k (Nat.lt_succ_self k) with h2 | h2 | h2 <;> rw [h2] <;> simp <;> omega
/-! ===== a room's numbers ===== -/
/-- what holds of a room's seat -/
def wb_se (T : sw_T) (b : Nat) (N : Int) (w : Int) : Prop :=
  (1 ≤ T (b + 2) w ∧ T (b + 2) w ≤ 9) ∧ (T (b + 3) w = -1 ∨ (0 ≤ T (b + 3) w ∧ T (b + 3) w < T (b + 20) 0 ∧ T (b + 22) (T (b + 3) w) = 1 ∧ T (b + 23) (T (b + 3) w) = w)) ∧ (0 ≤ T (b + 4) w ∧ T (b + 4) w ≤ 20) ∧ (T (b + 5) w = 0 ∨ T (b + 5) w = 1) ∧ (0 ≤ T (b + 6) w ∧ 0 ≤ T (b + 7) w) ∧ (0 ≤ T (b + 8) w ∧ T (b + 8) w ≤ N) ∧ (0 ≤ T (b + 9) w ∧ T (b + 9) w ≤ N) ∧ (0 ≤ T (b + 11) w ∧ T (b + 11) w ≤ 16)
/-- a seat that nobody has -/
def wb_cl (T : sw_T) (b : Nat) (w : Int) : Prop := T (b + 3) w = -1 ∧ T (b + 4) w = 0 ∧ T (b + 5) w = 0 ∧ T (b + 6) w = 0 ∧ T (b + 7) w = 0 ∧ T (b + 8) w = 0 ∧ T (b + 9) w = 0 ∧ T (b + 11) w = 0
/-- her pile -/
def wb_pi (T : sw_T) (b : Nat) (w j : Int) : Int := T (b + 13 + w.toNat) j
def wb_hd (T : sw_T) (b : Nat) (w : Int) : Int := if T (b + 3) w = -1 then 0 else 1
/-- what holds of a room -/
def wb_iv (T : sw_T) (b : Nat) (N : Int) : Prop :=
  ((2 ≤ T (b + 1) 0 ∧ T (b + 1) 0 ≤ 99) ∧ (0 ≤ T (b + 1) 1 ∧ T (b + 1) 1 ≤ 2) ∧ (1 ≤ T (b + 1) 2 ∧ T (b + 1) 2 ≤ 20)) ∧
  ((0 ≤ T b 0 ∧ T b 0 ≤ N) ∧ (2 ≤ T b 1 ∧ T b 1 ≤ 7) ∧ 0 ≤ T b 2 ∧ (0 ≤ T b 3 ∧ T b 3 ≤ N) ∧ (0 ≤ T (b + 20) 0 ∧ T (b + 20) 0 ≤ 120)) ∧
  (∀ w, 0 ≤ w ∧ w < 7 → wb_se T b N w) ∧
  (∀ w, T b 1 ≤ w ∧ w < 7 → wb_cl T b w) ∧
  (∀ w j, 0 ≤ w ∧ w < 7 → 0 ≤ j ∧ j < T (b + 11) w → (0 ≤ wb_pi T b w j ∧ wb_pi T b w j < T (b + 20) 0) ∧ T (b + 22) (wb_pi T b w j) = 0 ∧ T (b + 23) (wb_pi T b w j) = w) ∧
  (∀ w i j, 0 ≤ w ∧ w < 7 → 0 ≤ i ∧ i < j ∧ j < T (b + 11) w → wb_pi T b w i ≠ wb_pi T b w j) ∧
  (∀ s, 0 ≤ s ∧ s < T (b + 20) 0 → (0 ≤ T (b + 21) s ∧ T (b + 21) s ≤ 99) ∧ (0 ≤ T (b + 22) s ∧ T (b + 22) s ≤ 2) ∧ (0 ≤ T (b + 23) s ∧ T (b + 23) s < 7)) ∧
  (wb_ct (T (b + 22)) 0 (T (b + 20) 0).toNat = wb_s7 (T (b + 11)) ∧ wb_ct (T (b + 22)) 1 (T (b + 20) 0).toNat = wb_s7 (wb_hd T b) ∧ wb_ct (T (b + 22)) 2 (T (b + 20) 0).toNat = wb_s7 (T (b + 6)) ∧ T b 2 + wb_s7 (T (b + 11)) = T (b + 20) 0 ∧ wb_s7 (T (b + 7)) ≤ T b 2)
/-- where a place of the reference's row lies in a room: table, index, what is added -/
def wb_k (j : Int) : Nat := if j < 3 then 1 else if j < 8 then (if j = 5 then 20 else 0) else if j < 71 then (if (j - 8) % 9 = 8 then 11 else 2 + ((j - 8) % 9).toNat) else if j < 183 then 13 + ((j - 71) / 16).toNat else 21 + ((j - 183) % 3).toNat
def wb_i (j : Int) : Int := if j < 3 then j else if j < 8 then (if j = 4 then 1 else if j = 6 then 3 else if j = 7 then 2 else 0) else if j < 71 then (j - 8) / 9 else if j < 183 then (j - 71) % 16 else (j - 183) / 3
def wb_a (j : Int) : Int := if 8 ≤ j ∧ j < 71 ∧ (j - 8) % 9 = 1 then 1 else 0
/-- the place of a table's index -/
def wb_j (t : Nat) (i : Int) : Int := if t = 1 then i else if t = 0 then (if i = 1 then 4 else if i = 3 then 6 else if i = 2 then 7 else 3) else if t = 20 then 5 else if t = 11 then 8 + 9 * i + 8 else if t < 11 then 8 + 9 * i + ((t : Int) - 2) else if t < 20 then 71 + 16 * ((t : Int) - 13) + i else 183 + 3 * i + ((t : Int) - 21)
theorem wb_j_ki {j : Int} (h : 0 ≤ j) : wb_j (wb_k j) (wb_i j) = j := by
  by_cases h1 : j < 3
  · unfold wb_k wb_i
    rw [if_pos h1, if_pos h1]
    rfl
  · by_cases h2 : j < 8
    · have : j = 3 ∨ j = 4 ∨ j = 5 ∨ j = 6 ∨ j = 7 := by omega
      rcases this with rfl | rfl | rfl | rfl | rfl <;> rfl
    · by_cases h3 : j < 71
      · unfold wb_k wb_i
        rw [if_neg h1, if_neg h2, if_pos h3, if_neg h1, if_neg h2, if_pos h3]
        by_cases h4 : (j - 8) % 9 = 8
        · rw [if_pos h4]
          show 8 + 9 * ((j - 8) / 9) + 8 = j
          omega
        · rw [if_neg h4]
          unfold wb_j
          rw [if_neg (by omega), if_neg (by omega), if_neg (by omega), if_neg (by omega), if_pos (by omega)]
          omega
      · by_cases h4 : j < 183
        · unfold wb_k wb_i
          rw [if_neg h1, if_neg h2, if_neg h3, if_pos h4, if_neg h1, if_neg h2, if_neg h3, if_pos h4]
          unfold wb_j
          rw [if_neg (by omega), if_neg (by omega), if_neg (by omega), if_neg (by omega), if_neg (by omega), if_pos (by omega)]
          omega
        · unfold wb_k wb_i
          rw [if_neg h1, if_neg h2, if_neg h3, if_neg h4, if_neg h1, if_neg h2, if_neg h3, if_neg h4]
          unfold wb_j
          rw [if_neg (by omega), if_neg (by omega), if_neg (by omega), if_neg (by omega), if_neg (by omega), if_neg (by omega)]
          omega
theorem wb_k_lt {j : Int} (h : 0 ≤ j) : wb_k j < 24 := by
  unfold wb_k
  repeat' split
  all_goals omega
/-- what the reference's row holds for a room -/
def wb_en (T : sw_T) (b : Nat) (j : Int) : Int := T (b + wb_k j) (wb_i j) + wb_a j
/-- which of its places mean something -/
def wb_rl (T : sw_T) (b : Nat) (j : Int) : Prop := 0 ≤ j ∧ (j < 8 + 9 * T b 1 ∨ (71 ≤ j ∧ j < 183 ∧ (j - 71) / 16 < T b 1 ∧ (j - 71) % 16 < T (b + 11) ((j - 71) / 16)) ∨ (183 ≤ j ∧ j < 183 + 3 * T (b + 20) 0))
def wb_rp (T : sw_T) (b : Nat) (M : Int → Int) : Prop := ∀ j, wb_rl T b j → M j = wb_en T b j
/-- one write here, one there -/
theorem wb_up {T : sw_T} {b t : Nat} {M : Int → Int} {i v : Int} (h : wb_rp T b M) (hj : wb_k (wb_j t i) = t ∧ wb_i (wb_j t i) = i) (hr : ∀ j, wb_rl (sw_up T (b + t) i v) b j → j ≠ wb_j t i → wb_rl T b j ∨ M j = wb_en T b j) : wb_rp (sw_up T (b + t) i v) b (sw_ui M (wb_j t i) (v + wb_a (wb_j t i))) := by
  intro j hjr
  unfold sw_ui wb_en
  by_cases hjj : j = wb_j t i
  · rw [if_pos hjj, hjj, hj.1, hj.2, sw_up_eq]
    unfold sw_ui
    rw [if_pos rfl]
  · rw [if_neg hjj]
    have h1 : M j = wb_en T b j := (hr j hjr hjj).elim (h j) id
    rw [h1]
    unfold wb_en
    by_cases hk : b + wb_k j = b + t
    · rw [hk, sw_up_eq]
      unfold sw_ui
      rw [if_neg]
      intro hi
      apply hjj
      rw [← wb_j_ki hjr.1, hi, show wb_k j = t by omega]
    · rw [sw_up_ne hk]
/-- a write that leaves staff, heights and the number of shirts -/
theorem wb_up0 {T : sw_T} {b t : Nat} {M : Int → Int} {i v : Int} (h : wb_rp T b M) (hj : wb_k (wb_j t i) = t ∧ wb_i (wb_j t i) = i) (h11 : t ≠ 11) (h20 : t ≠ 20) (h0 : t ≠ 0 ∨ i ≠ 1) : wb_rp (sw_up T (b + t) i v) b (sw_ui M (wb_j t i) (v + wb_a (wb_j t i))) := by
  refine wb_up h hj (fun j hjr _ => .inl ?_)
  unfold wb_rl at hjr ⊢
  have e0 : sw_up T (b + t) i v b 1 = T b 1 := by
    by_cases ht : t = 0
    · subst ht
      show sw_up T b i v b 1 = _
      rw [sw_up_eq]
      exact if_neg (by omega)
    · rw [sw_up_ne (by omega)]
  rw [e0, sw_up_ne (show b + 11 ≠ b + t by omega), sw_up_ne (show b + 20 ≠ b + t by omega)] at hjr
  exact hjr
theorem wb_loc_seat {t : Nat} {w : Int} (ht : 2 ≤ t ∧ t < 10) (hw : 0 ≤ w ∧ w < 7) : wb_j t w = 8 + 9 * w + ((t : Int) - 2) ∧ wb_k (wb_j t w) = t ∧ wb_i (wb_j t w) = w ∧ wb_a (wb_j t w) = if t = 3 then 1 else 0 := by
  have e : wb_j t w = 8 + 9 * w + ((t : Int) - 2) := by
    unfold wb_j
    rw [if_neg (by omega), if_neg (by omega), if_neg (by omega), if_neg (by omega), if_pos (by omega)]
  refine ⟨e, ?_, ?_, ?_⟩
  · rw [e]
    unfold wb_k
    rw [if_neg (by omega), if_neg (by omega), if_pos (by omega), if_neg (by omega)]
    omega
  · rw [e]
    unfold wb_i
    rw [if_neg (by omega), if_neg (by omega), if_pos (by omega)]
    omega
  · rw [e]
    unfold wb_a
    by_cases h3 : t = 3
    · rw [if_pos h3, if_pos (by omega)]
    · rw [if_neg h3, if_neg (by omega)]
theorem wb_loc_hgt {w : Int} (hw : 0 ≤ w ∧ w < 7) : wb_j 11 w = 8 + 9 * w + 8 ∧ wb_k (wb_j 11 w) = 11 ∧ wb_i (wb_j 11 w) = w ∧ wb_a (wb_j 11 w) = 0 := by
  have e : wb_j 11 w = 8 + 9 * w + 8 := rfl
  refine ⟨e, ?_, ?_, ?_⟩
  · rw [e]
    unfold wb_k
    rw [if_neg (by omega), if_neg (by omega), if_pos (by omega), if_pos (by omega)]
  · rw [e]
    unfold wb_i
    rw [if_neg (by omega), if_neg (by omega), if_pos (by omega)]
    omega
  · rw [e]
    unfold wb_a
    rw [if_neg (by omega)]
theorem wb_loc_pile {w p : Int} (hw : 0 ≤ w ∧ w < 7) (hp : 0 ≤ p ∧ p < 16) : wb_j (13 + w.toNat) p = 71 + 16 * w + p ∧ wb_k (wb_j (13 + w.toNat) p) = 13 + w.toNat ∧ wb_i (wb_j (13 + w.toNat) p) = p ∧ wb_a (wb_j (13 + w.toNat) p) = 0 := by
  have e : wb_j (13 + w.toNat) p = 71 + 16 * w + p := by
    unfold wb_j
    rw [if_neg (by omega), if_neg (by omega), if_neg (by omega), if_neg (by omega), if_neg (by omega), if_pos (by omega)]
    omega
  refine ⟨e, ?_, ?_, ?_⟩
  · rw [e]
    unfold wb_k
    rw [if_neg (by omega), if_neg (by omega), if_neg (by omega), if_pos (by omega)]
    omega
  · rw [e]
    unfold wb_i
    rw [if_neg (by omega), if_neg (by omega), if_neg (by omega), if_pos (by omega)]
    omega
  · rw [e]
    unfold wb_a
    rw [if_neg (by omega)]
theorem wb_loc_shirt {t : Nat} {s : Int} (ht : 21 ≤ t ∧ t < 24) (hs : 0 ≤ s) : wb_j t s = 183 + 3 * s + ((t : Int) - 21) ∧ wb_k (wb_j t s) = t ∧ wb_i (wb_j t s) = s ∧ wb_a (wb_j t s) = 0 := by
  have e : wb_j t s = 183 + 3 * s + ((t : Int) - 21) := by
    unfold wb_j
    rw [if_neg (by omega), if_neg (by omega), if_neg (by omega), if_neg (by omega), if_neg (by omega), if_neg (by omega)]
  refine ⟨e, ?_, ?_, ?_⟩
  · rw [e]
    unfold wb_k
    rw [if_neg (by omega), if_neg (by omega), if_neg (by omega), if_neg (by omega)]
    omega
  · rw [e]
    unfold wb_i
    rw [if_neg (by omega), if_neg (by omega), if_neg (by omega), if_neg (by omega)]
    omega
  · rw [e]
    unfold wb_a
    rw [if_neg (by omega)]
/-! the reference's reads -/
theorem wb_rd_set {T : sw_T} {b : Nat} {M : Int → Int} (h : wb_rp T b M) (h1 : 2 ≤ T b 1) {j : Int} (hj : 0 ≤ j ∧ j < 3) : M j = T (b + 1) j := by
  rw [h j ⟨hj.1, .inl (by omega)⟩]
  unfold wb_en wb_k wb_i wb_a
  rw [if_pos hj.2, if_pos hj.2, if_neg (by omega)]
  omega
theorem wb_rd_sc {T : sw_T} {b : Nat} {M : Int → Int} (h : wb_rp T b M) (h1 : 2 ≤ T b 1) : M 3 = T b 0 ∧ M 4 = T b 1 ∧ M 5 = T (b + 20) 0 ∧ M 6 = T b 3 ∧ M 7 = T b 2 := by
  refine ⟨?_, ?_, ?_, ?_, ?_⟩
  · rw [h 3 ⟨by decide, .inl (by omega)⟩]; show T b 0 + 0 = _; omega
  · rw [h 4 ⟨by decide, .inl (by omega)⟩]; show T b 1 + 0 = _; omega
  · rw [h 5 ⟨by decide, .inl (by omega)⟩]; show T (b + 20) 0 + 0 = _; omega
  · rw [h 6 ⟨by decide, .inl (by omega)⟩]; show T b 3 + 0 = _; omega
  · rw [h 7 ⟨by decide, .inl (by omega)⟩]; show T b 2 + 0 = _; omega
theorem wb_rd_seat {T : sw_T} {b : Nat} {M : Int → Int} (h : wb_rp T b M) (h7 : T b 1 ≤ 7) {w : Int} (hw : 0 ≤ w ∧ w < T b 1) (t : Nat) (ht : 2 ≤ t ∧ t < 10) : M (8 + 9 * w + ((t : Int) - 2)) = T (b + t) w + (if t = 3 then 1 else 0) := by
  obtain ⟨e1, e2, e3, e4⟩ := wb_loc_seat (t := t) (w := w) ht ⟨hw.1, by omega⟩
  rw [h _ ⟨by omega, .inl (by omega)⟩]
  unfold wb_en
  rw [← e1, e2, e3, e4]
theorem wb_rd_hgt {T : sw_T} {b : Nat} {M : Int → Int} (h : wb_rp T b M) (h7 : T b 1 ≤ 7) {w : Int} (hw : 0 ≤ w ∧ w < T b 1) : M (8 + 9 * w + 8) = T (b + 11) w := by
  obtain ⟨e1, e2, e3, e4⟩ := wb_loc_hgt (w := w) ⟨hw.1, by omega⟩
  rw [h _ ⟨by omega, .inl (by omega)⟩]
  unfold wb_en
  rw [← e1, e2, e3, e4]
  omega
theorem wb_rd_pile {T : sw_T} {b : Nat} {M : Int → Int} (h : wb_rp T b M) (h7 : T b 1 ≤ 7) {w p : Int} (hw : 0 ≤ w ∧ w < T b 1) (hp : 0 ≤ p ∧ p < T (b + 11) w) (h16 : T (b + 11) w ≤ 16) : M (71 + 16 * w + p) = wb_pi T b w p := by
  obtain ⟨e1, e2, e3, e4⟩ := wb_loc_pile (w := w) (p := p) ⟨hw.1, by omega⟩ ⟨hp.1, by omega⟩
  rw [h _ ⟨by omega, .inr (.inl ⟨by omega, by omega, by omega, by rw [show (71 + 16 * w + p - 71) % 16 = p by omega, show (71 + 16 * w + p - 71) / 16 = w by omega]; exact hp.2⟩)⟩]
  unfold wb_en
  rw [← e1, e2, e3, e4]
  unfold wb_pi
  rw [show b + (13 + w.toNat) = b + 13 + w.toNat by omega]
  omega
theorem wb_rd_shirt {T : sw_T} {b : Nat} {M : Int → Int} (h : wb_rp T b M) {s : Int} (hs : 0 ≤ s ∧ s < T (b + 20) 0) (t : Nat) (ht : 21 ≤ t ∧ t < 24) : M (183 + 3 * s + ((t : Int) - 21)) = T (b + t) s := by
  obtain ⟨e1, e2, e3, e4⟩ := wb_loc_shirt (t := t) (s := s) ht hs.1
  rw [h _ ⟨by omega, .inr (.inr ⟨by omega, by omega⟩)⟩]
  unfold wb_en
  rw [← e1, e2, e3, e4]
  omega
/-! the writes, each by its own name -/
theorem wb_up_seat {T : sw_T} {b : Nat} {M : Int → Int} {w v : Int} (h : wb_rp T b M) (hw : 0 ≤ w ∧ w < 7) (t : Nat) (ht : 2 ≤ t ∧ t < 10) : wb_rp (sw_up T (b + t) w v) b (sw_ui M (8 + 9 * w + ((t : Int) - 2)) (v + (if t = 3 then 1 else 0))) := by
  obtain ⟨e1, e2, e3, e4⟩ := wb_loc_seat (t := t) (w := w) ht hw
  have := wb_up0 (v := v) h ⟨e2, e3⟩ (by omega) (by omega) (.inl (by omega))
  rw [e4, e1] at this
  exact this
theorem wb_up_shirt {T : sw_T} {b : Nat} {M : Int → Int} {s v : Int} (h : wb_rp T b M) (hs : 0 ≤ s) (t : Nat) (ht : 21 ≤ t ∧ t < 24) : wb_rp (sw_up T (b + t) s v) b (sw_ui M (183 + 3 * s + ((t : Int) - 21)) v) := by
  obtain ⟨e1, e2, e3, e4⟩ := wb_loc_shirt (t := t) (s := s) ht hs
  have := wb_up0 (v := v) h ⟨e2, e3⟩ (by omega) (by omega) (.inl (by omega))
  rw [e4, e1, Int.add_zero] at this
  exact this
theorem wb_up_pile {T : sw_T} {b : Nat} {M : Int → Int} {w p v : Int} (h : wb_rp T b M) (hw : 0 ≤ w ∧ w < 7) (hp : 0 ≤ p ∧ p < 16) : wb_rp (sw_up T (b + (13 + w.toNat)) p v) b (sw_ui M (71 + 16 * w + p) v) := by
  obtain ⟨e1, e2, e3, e4⟩ := wb_loc_pile (w := w) (p := p) hw hp
  have := wb_up0 (v := v) h ⟨e2, e3⟩ (by omega) (by omega) (.inl (by omega))
  rw [e4, e1, Int.add_zero] at this
  exact this
theorem wb_up_min {T : sw_T} {b : Nat} {M : Int → Int} {v : Int} (h : wb_rp T b M) : wb_rp (sw_up T b 0 v) b (sw_ui M 3 v) := by
  have := wb_up0 (t := 0) (i := 0) (v := v) h ⟨rfl, rfl⟩ (by decide) (by decide) (.inr (by decide))
  rw [show v + wb_a (wb_j 0 0) = v by show v + 0 = v; omega] at this
  exact this
theorem wb_up_tak {T : sw_T} {b : Nat} {M : Int → Int} {v : Int} (h : wb_rp T b M) : wb_rp (sw_up T b 2 v) b (sw_ui M 7 v) := by
  have := wb_up0 (t := 0) (i := 2) (v := v) h ⟨rfl, rfl⟩ (by decide) (by decide) (.inr (by decide))
  rw [show v + wb_a (wb_j 0 2) = v by show v + 0 = v; omega] at this
  exact this
theorem wb_up_div {T : sw_T} {b : Nat} {M : Int → Int} {v : Int} (h : wb_rp T b M) : wb_rp (sw_up T b 3 v) b (sw_ui M 6 v) := by
  have := wb_up0 (t := 0) (i := 3) (v := v) h ⟨rfl, rfl⟩ (by decide) (by decide) (.inr (by decide))
  rw [show v + wb_a (wb_j 0 3) = v by show v + 0 = v; omega] at this
  exact this
theorem wb_up_set {T : sw_T} {b : Nat} {M : Int → Int} {k v : Int} (h : wb_rp T b M) (hk : 0 ≤ k ∧ k < 3) : wb_rp (sw_up T (b + 1) k v) b (sw_ui M k v) := by
  have e : wb_k (wb_j 1 k) = 1 ∧ wb_i (wb_j 1 k) = k := by
    show wb_k k = 1 ∧ wb_i k = k
    unfold wb_k wb_i
    rw [if_pos hk.2, if_pos hk.2]
    exact ⟨rfl, rfl⟩
  have := wb_up0 (t := 1) (i := k) (v := v) h e (by decide) (by decide) (.inl (by decide))
  have ha : wb_a (wb_j 1 k) = 0 := by
    show wb_a k = 0
    unfold wb_a
    rw [if_neg (by omega)]
  rw [ha, Int.add_zero] at this
  exact this
/-- a pile's height: lower, or higher by one where the reference has the new shirt -/
theorem wb_up_hgt {T : sw_T} {b : Nat} {M : Int → Int} {w v : Int} (h : wb_rp T b M) (hw : 0 ≤ w ∧ w < 7) (hv : v ≤ T (b + 11) w ∨ v = T (b + 11) w + 1 ∧ (0 ≤ T (b + 11) w ∧ T (b + 11) w < 16) ∧ M (71 + 16 * w + T (b + 11) w) = wb_pi T b w (T (b + 11) w)) : wb_rp (sw_up T (b + 11) w v) b (sw_ui M (8 + 9 * w + 8) v) := by
  obtain ⟨e1, e2, e3, e4⟩ := wb_loc_hgt (w := w) hw
  have := wb_up (t := 11) (i := w) (v := v) h ⟨e2, e3⟩ (fun j hjr hjj => by
    rw [e1] at hjj
    by_cases hn : 71 ≤ j ∧ j < 183 ∧ (j - 71) / 16 = w ∧ (j - 71) % 16 = T (b + 11) w ∧ ¬ v ≤ T (b + 11) w
    · obtain ⟨h1, h2, h3, h4, h5⟩ := hn
      rcases hv with hv | ⟨hv1, hv2, hv3⟩
      · exact absurd hv h5
      · obtain ⟨d1, d2, d3, d4⟩ := wb_loc_pile (w := w) (p := T (b + 11) w) hw hv2
        have hj2 : j = 71 + 16 * w + T (b + 11) w := by omega
        refine .inr ?_
        rw [hj2, hv3]
        unfold wb_en
        rw [← d1, d2, d3, d4]
        unfold wb_pi
        rw [show b + (13 + w.toNat) = b + 13 + w.toNat by omega]
        omega
    · refine .inl ?_
      unfold wb_rl at hjr ⊢
      have e : ∀ i, sw_up T (b + 11) w v (b + 11) i = if i = w then v else T (b + 11) i := fun i => by rw [sw_up_eq]; rfl
      rw [sw_up_ne (show b ≠ b + 11 by omega), sw_up_ne (show b + 20 ≠ b + 11 by omega), e] at hjr
      refine ⟨hjr.1, ?_⟩
      rcases hjr.2 with h1 | ⟨h1, h2, h3, h4⟩ | h1
      · exact .inl h1
      · refine .inr (.inl ⟨h1, h2, h3, ?_⟩)
        split at h4
        · rename_i hx
          rw [hx]
          omega
        · exact h4
      · exact .inr (.inr h1))
  rw [e4, e1, Int.add_zero] at this
  exact this
/-- one shirt more: the reference has its numbers already -/
theorem wb_up_came {T : sw_T} {b : Nat} {M : Int → Int} (h : wb_rp T b M) (hc : 0 ≤ T (b + 20) 0) (h0 : ∀ t : Nat, 21 ≤ t ∧ t < 24 → M (183 + 3 * T (b + 20) 0 + ((t : Int) - 21)) = T (b + t) (T (b + 20) 0)) : wb_rp (sw_up T (b + 20) 0 (T (b + 20) 0 + 1)) b (sw_ui M 5 (T (b + 20) 0 + 1)) := by
  have := wb_up (t := 20) (i := 0) (v := T (b + 20) 0 + 1) h ⟨rfl, rfl⟩ (fun j hjr hjj => by
    by_cases hn : 183 + 3 * T (b + 20) 0 ≤ j ∧ j < 183 + 3 * T (b + 20) 0 + 3
    · refine .inr ?_
      obtain ⟨t, ht, hj⟩ : ∃ t : Nat, (21 ≤ t ∧ t < 24) ∧ j = 183 + 3 * T (b + 20) 0 + ((t : Int) - 21) := ⟨21 + (j - (183 + 3 * T (b + 20) 0)).toNat, by omega, by omega⟩
      obtain ⟨d1, d2, d3, d4⟩ := wb_loc_shirt (t := t) (s := T (b + 20) 0) ht hc
      rw [hj, h0 t ht]
      unfold wb_en
      rw [← d1, d2, d3, d4]
      omega
    · refine .inl ?_
      unfold wb_rl at hjr ⊢
      have e : sw_up T (b + 20) 0 (T (b + 20) 0 + 1) (b + 20) 0 = T (b + 20) 0 + 1 := by rw [sw_up_eq]; exact if_pos rfl
      rw [sw_up_ne (show b ≠ b + 20 by omega), sw_up_ne (show b + 11 ≠ b + 20 by omega), e] at hjr
      omega)
  rw [show T (b + 20) 0 + 1 + wb_a (wb_j 20 0) = T (b + 20) 0 + 1 by show T (b + 20) 0 + 1 + 0 = _; omega] at this
  exact this
