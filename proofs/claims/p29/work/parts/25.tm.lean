/-! ===== numbers in place of cells: what the cells hold is a table of whole numbers ===== -/
abbrev sw_T : Type := Nat → Int → Int
abbrev sw_F : Type := Nat → Nat → Bool
abbrev sw_K : Type := Option Nat × Nat × Nat
def sw_rs : List (Nat × Nat) := [(13, 0), (0, 3), (0, 7), (0, 7), (0, 7), (1, 7), (0, 7), (0, 7), (0, 7), (0, 7), (12, 0), (0, 7), (5, 7), (0, 16), (0, 16), (0, 16), (0, 16), (0, 16), (0, 16), (0, 16), (14, 0), (0, 120), (0, 120), (0, 120)]
/-- the kinds and sizes of all cells that the law makes, in the order of their making -/
def sw_L : List (Nat × Nat) := [(15, 0)] ++ sw_rs ++ sw_rs ++ sw_rs ++ [(10, 0), (4, 6)] ++ sw_rs ++ sw_rs ++ sw_rs ++ sw_rs ++ sw_rs ++ sw_rs ++ [(11, 0), (2, 60)]
/-- where the rooms lie -/
def sw_rm : List Nat := [1, 25, 49, 75, 99, 123, 147, 171, 195]
def sw_s (n a : Nat) : Option (Nat × Nat) := (sw_L.take n)[a]?
def sw_Ft : sw_F := fun _ _ => true
def sw_rf (f : Nat → Bool) (k q : Nat) : Value := if f k then .ref q else .null
def sw_iv (t : Int → Int) (k : Int) : Value := .int (Int32.ofInt (t k))
/-- the fields of an object -/
def sw_fd (ci z a : Nat) (f : Nat → Bool) (t : Int → Int) : List Value := match ci with
  | 0 => [sw_rf f 0 (z + (a + 1)), sw_iv t 1]
  | 1 => [sw_rf f 0 (z + (a + 1)), sw_iv t 1]
  | 2 => [sw_rf f 0 (z + (a + 1)), sw_rf f 1 (z + (a + 2))]
  | 3 => [sw_iv t 0, sw_iv t 1, sw_iv t 2, sw_iv t 3, sw_rf f 4 (z + (a + 1)), sw_rf f 5 (z + (a + 2)), sw_rf f 6 (z + (a + 3)), sw_rf f 7 (z + (a + 4)), sw_rf f 8 (z + (a + 5)), sw_rf f 9 (z + (a + 6)), sw_rf f 10 (z + (a + 7)), sw_rf f 11 (z + (a + 8)), sw_rf f 12 (z + (a + 9)), sw_rf f 13 (z + (a + 10)), sw_rf f 14 (z + (a + 20))]
  | 4 => [sw_iv t 0, sw_rf f 1 (z + (a + 1)), sw_rf f 2 (z + (a + 2)), sw_rf f 3 (z + (a + 3))]
  | 5 => [sw_rf f 0 (z + (a + 1)), sw_rf f 1 (z + (a + 25)), sw_rf f 2 (z + (a + 49)), sw_rf f 3 (z + (a + 73)), sw_rf f 4 (z + (a + 219)), sw_iv t 5]
  | _ => []
/-- a cell -/
def sw_ce (z a : Nat) (f : Nat → Bool) (t : Int → Int) (s : Nat × Nat) : va_E := match s.1 with
  | 0 => .inl (0, s.2, .inl (fun k => Int32.ofInt (t k)))
  | 1 => .inl (1, s.2, .inl (fun k => Int32.ofInt (t k)))
  | 2 => .inl (2, s.2, .inl (fun k => Int32.ofInt (t k)))
  | 3 => .inl (3, s.2, .inr (.inl (fun k => Int64.ofInt (t k))))
  | 4 => .inl (4, s.2, .inr (.inr (.inr (.inr (fun k => if t k = 0 then none else some (z + (t k).toNat))))))
  | 5 => .inl (5, s.2, .inr (.inr (.inr (.inr (fun k => if k < s.2 then some (z + (a + 1 + k)) else none)))))
  | c => .inr (c - 10, sw_fd (c - 10) z a f t)
def sw_h (z n : Nat) (F : sw_F) (T : sw_T) : sp_H := fun q => if q < z then none else (sw_s n (q - z)).map (fun s => sw_ce z (q - z) (F (q - z)) (T (q - z)) s)
def sw_M (z n : Nat) (F : sw_F) (T : sw_T) (K : sw_K) : sp_M := (K.1, K.2.1, K.2.2, sw_h z n F T)
def sw_th (K : sw_K) : sw_K := (none, K.2.1 + 1, K.2.2 + 6)
theorem sw_h_at {z n : Nat} {F : sw_F} {T : sw_T} {a : Nat} {s : Nat × Nat} (hs : sw_s n a = some s) : sw_h z n F T (z + a) = some (sw_ce z a (F a) (T a) s) := by
  unfold sw_h
  rw [if_neg (by omega), show z + a - z = a by omega, hs]
  rfl
theorem sw_h_lo {z n : Nat} {F : sw_F} {T : sw_T} {q : Nat} (h : q < z) : sw_h z n F T q = none := by
  unfold sw_h
  rw [if_pos h]
theorem sw_h_up {z n : Nat} {F : sw_F} {T T' : sw_T} {a : Nat} {s : Nat × Nat} (hs : sw_s n a = some s) (hT : ∀ a', a' ≠ a → T' a' = T a') : sp_up (sw_h z n F T) (z + a) (sw_ce z a (F a) (T' a) s) = sw_h z n F T' := by
  funext q
  unfold sp_up
  by_cases hq : q = z + a
  · subst hq
    rw [if_pos rfl, sw_h_at hs]
  · rw [if_neg hq]
    unfold sw_h
    by_cases h : q < z
    · rw [if_pos h, if_pos h]
    · rw [if_neg h, if_neg h, hT (q - z) (by omega)]
/-- one number written -/
def sw_ui (t : Int → Int) (k v : Int) : Int → Int := fun j => if j = k then v else t j
def sw_up (T : sw_T) (a : Nat) (k v : Int) : sw_T := fun a' => if a' = a then sw_ui (T a) k v else T a'
theorem sw_up_ne {T : sw_T} {a : Nat} {k v : Int} {a' : Nat} (h : a' ≠ a) : sw_up T a k v a' = T a' := if_neg h
theorem sw_up_eq {T : sw_T} {a : Nat} {k v : Int} : sw_up T a k v a = sw_ui (T a) k v := if_pos rfl
/-- what a step needs of its numbers, and what it gives -/
def sw_ld (T : sw_T) (a m : Nat) (j : Int) : Option Int := if 0 ≤ j ∧ j < m then some (T a j) else none
def sw_st (T : sw_T) (a m : Nat) (j v : Int) : Option sw_T := if 0 ≤ j ∧ j < m then some (sw_up T a j v) else none
def sw_sb (T : sw_T) (a m : Nat) (j v : Int) : Option sw_T := if (0 ≤ j ∧ j < m) ∧ (v = 0 ∨ v = 1) then some (sw_up T a j v) else none
def sw_sc (T : sw_T) (a m : Nat) (j v : Int) : Option sw_T := if (0 ≤ j ∧ j < m) ∧ 0 ≤ v ∧ v < 65536 then some (sw_up T a j v) else none
def sw_pf (T : sw_T) (a : Nat) (k v : Int) : Option sw_T := some (sw_up T a k v)
def sw_pb (T : sw_T) (a : Nat) (k v : Int) : Option sw_T := if v = 0 ∨ v = 1 then some (sw_up T a k v) else none
def sw_rw (m : Nat) (j : Int) : Option Nat := if 0 ≤ j ∧ j < m then some j.toNat else none
def sw_lr (T : sw_T) (a m : Nat) (j : Int) : Option Nat := if (0 ≤ j ∧ j < m) ∧ 0 ≤ T a j ∧ (T a j).toNat ∈ sw_rm then some (T a j).toNat else none
def sw_sr (T : sw_T) (a m : Nat) (j : Int) (r : Nat) : Option sw_T := if 0 ≤ j ∧ j < m then some (sw_up T a j r) else none
def sw_r1 (a : Int) : Option Unit := if -2147483648 ≤ a ∧ a < 2147483648 then some () else none
def sw_r2 (a b : Int) : Option Unit := if (-2147483648 ≤ a ∧ a < 2147483648) ∧ (-2147483648 ≤ b ∧ b < 2147483648) then some () else none
def sw_l2 (a b : Int) : Option Unit := if (-9223372036854775808 ≤ a ∧ a < 9223372036854775808) ∧ (-9223372036854775808 ≤ b ∧ b < 9223372036854775808) then some () else none
def sw_dv (a b : Int) : Option Unit := if (0 ≤ a ∧ a < 2147483648) ∧ (0 < b ∧ b < 2147483648) then some () else none
def sw_c16 (a : Int) : Option Unit := if 0 ≤ a ∧ a < 65536 then some () else none
def sw_k32 (x : UInt32) : Option Unit := if sp_ok32 x = true then some () else none
def sw_k64 (x : UInt64) : Option Unit := if sp_ok64 x = true then some () else none
theorem sw_bind {α β : Type} {x : Option α} {f : α → Option β} {q : β} (h : x.bind f = some q) : ∃ a, x = some a ∧ f a = some q := by
  cases x with
  | none => cases h
  | some a => exact ⟨a, rfl, h⟩
theorem sw_gd {P : Prop} [Decidable P] {α : Type} {x y : α} (h : (if P then some x else none) = some y) : P ∧ x = y := by
  split at h
  · rename_i hp
    exact ⟨hp, Option.some.inj h⟩
  · cases h
theorem sw_ri {a : Int} (h : -2147483648 ≤ a ∧ a < 2147483648) : (Int32.ofInt a).toInt = a := by
  rw [Int32.toInt_ofInt]
  exact Int.bmod_eq_of_le (by unfold Int32.size; omega) (by unfold Int32.size; omega)
theorem sw_rl {a : Int} (h : -9223372036854775808 ≤ a ∧ a < 9223372036854775808) : (Int64.ofInt a).toInt = a := by
  rw [Int64.toInt_ofInt]
  exact Int.bmod_eq_of_le (by unfold Int64.size; omega) (by unfold Int64.size; omega)
theorem sw_cn {j : Int} (h : 0 ≤ j ∧ j < 2147483648) : (Int32.ofInt j).toNatClampNeg = j.toNat := by
  have := sw_ri (a := j) ⟨by omega, h.2⟩
  unfold Int32.toNatClampNeg
  rw [this]
theorem sw_in {j : Int} {m : Nat} (h : 0 ≤ j ∧ j < m) (hm : m ≤ 4000) : sp_in (Int32.ofInt j) m = true := by
  unfold sp_in
  have h1 := sw_ri (a := j) ⟨by omega, by omega⟩
  rw [sw_cn ⟨h.1, by omega⟩]
  apply decide_eq_true
  rw [Int32.lt_iff_toInt_lt, h1]
  show ¬ (j < 0 ∨ m ≤ j.toNat)
  omega
