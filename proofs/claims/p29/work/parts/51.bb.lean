/-! ===== the small methods, by what they come to ===== -/
theorem wb_rdu (T : sw_T) (a : Nat) (k v : Int) (a' : Nat) (i : Int) : sw_up T a k v a' i = if a' = a then (if i = k then v else T a i) else T a' i := by
  unfold sw_up sw_ui
  split <;> rfl
def wb_rg (a : Int) : Prop := -2147483648 ≤ a ∧ a < 2147483648
theorem wb_w25 {b : Nat} {T : sw_T} {w : Int} (h : 2 ≤ T b 1 ∧ T b 1 ≤ 7) (hr : wb_rg w) : w25 b T w = some (if 0 ≤ w ∧ w < T b 1 then 1 else 0) := by
  unfold w25 wb_rg at *
  rw [wb_r1 hr, Option.bind_some]
  by_cases h1 : w < 0
  · rw [if_pos h1, if_neg (by omega)]
  · rw [if_neg h1, wb_r2 hr (by omega), Option.bind_some]
    by_cases h2 : w < T b 1
    · rw [if_pos h2, wb_r2 hr (by omega), Option.bind_some, if_pos (by omega), if_pos (by omega)]
    · rw [if_neg h2, if_neg (by omega)]
theorem wb_w25y {b : Nat} {T : sw_T} {w : Int} (h : 2 ≤ T b 1 ∧ T b 1 ≤ 7) (hw : 0 ≤ w ∧ w < T b 1) : w25 b T w = some 1 := by
  rw [wb_w25 h ⟨by omega, by omega⟩, if_pos hw]
theorem wb_w51y {b : Nat} {T : sw_T} {s : Int} (h : 0 ≤ T (b + 20) 0 ∧ T (b + 20) 0 ≤ 120) (hs : 0 ≤ s ∧ s < T (b + 20) 0) : w51 b T s = some 1 := by
  unfold w51
  rw [wb_r1 ⟨by omega, by omega⟩, Option.bind_some, if_neg (by omega), wb_r2 ⟨by omega, by omega⟩ ⟨by omega, by omega⟩, Option.bind_some, if_pos hs.2, wb_r2 ⟨by omega, by omega⟩ ⟨by omega, by omega⟩, Option.bind_some, if_pos (by omega)]
theorem wb_w53y {b : Nat} {T : sw_T} {s : Int} (h : 0 ≤ T (b + 20) 0 ∧ T (b + 20) 0 ≤ 120) (hs : 0 ≤ s ∧ s < T (b + 20) 0) : w53 b T s = some (T (b + 21) s) := by
  unfold w53
  rw [wb_r1 ⟨by omega, by omega⟩, Option.bind_some, if_neg (by omega), wb_r2 ⟨by omega, by omega⟩ ⟨by omega, by omega⟩, Option.bind_some, if_pos hs.2, wb_r2 ⟨by omega, by omega⟩ ⟨by omega, by omega⟩, Option.bind_some, if_pos (by omega), wb_ld ⟨hs.1, by omega⟩, Option.bind_some]
theorem wb_w53n {b : Nat} {T : sw_T} : w53 b T (-1) = some 0 := by
  unfold w53
  rw [wb_r1 (by decide), Option.bind_some, if_pos (by decide)]
theorem wb_w54 {b : Nat} {T : sw_T} {s v : Int} (h : 0 ≤ T (b + 20) 0 ∧ T (b + 20) 0 ≤ 120) (hs : 0 ≤ s ∧ s < T (b + 20) 0) : w54 b T s v = some (sw_up T (b + 21) s v) := by
  unfold w54
  rw [wb_w51y h hs, Option.bind_some, wb_r1 (by decide), Option.bind_some, if_neg (by decide), wb_st ⟨hs.1, by omega⟩, Option.bind_some]
theorem wb_w55 {b : Nat} {T : sw_T} {s p w : Int} (h : 0 ≤ T (b + 20) 0 ∧ T (b + 20) 0 ≤ 120) (hs : 0 ≤ s ∧ s < T (b + 20) 0) : w55 b T s p w = some (sw_up (sw_up T (b + 22) s p) (b + 23) s w) := by
  unfold w55
  rw [wb_w51y h hs, Option.bind_some, wb_r1 (by decide), Option.bind_some, if_neg (by decide), wb_st ⟨hs.1, by omega⟩, Option.bind_some, wb_st ⟨hs.1, by omega⟩, Option.bind_some]
theorem wb_w18 {b : Nat} {T : sw_T} {w : Int} (hw : 0 ≤ w ∧ w < 7) : w18 b T w = some (T (b + 11) w) := by
  unfold w18
  rw [wb_r1 ⟨by omega, by omega⟩, Option.bind_some, if_neg (by omega), wb_r2 ⟨by omega, by omega⟩ (by decide), Option.bind_some, if_pos (by omega), wb_ld ⟨hw.1, by omega⟩, Option.bind_some]
theorem wb_w19 {b : Nat} {T : sw_T} {w p : Int} (hw : 0 ≤ w ∧ w < 7) (hp : wb_rg p) (hh : 0 ≤ T (b + 11) w ∧ T (b + 11) w ≤ 16) : w19 b T w p = some (if 0 ≤ p ∧ p < T (b + 11) w then wb_pi T b w p else -1) := by
  unfold wb_rg at hp
  unfold w19
  rw [wb_r1 ⟨by omega, by omega⟩, Option.bind_some, if_neg (by omega), wb_r2 ⟨by omega, by omega⟩ (by decide), Option.bind_some, if_pos (by omega), wb_r1 hp, Option.bind_some]
  by_cases h1 : p < 0
  · rw [if_pos h1, if_neg (by omega)]
  · rw [if_neg h1, wb_r2 hp (by decide), Option.bind_some]
    by_cases h2 : p < 16
    · rw [if_pos h2, wb_ld ⟨hw.1, by omega⟩, Option.bind_some, wb_r2 hp ⟨by omega, by omega⟩, Option.bind_some]
      by_cases h3 : p < T (b + 11) w
      · rw [if_pos h3, wb_rw ⟨hw.1, by omega⟩, Option.bind_some, wb_ld ⟨by omega, by omega⟩, Option.bind_some, if_pos (by omega)]
        rfl
      · rw [if_neg h3, if_neg (by omega)]
    · rw [if_neg h2, if_neg (by omega)]
theorem wb_w96 {T : sw_T} {v l m : Int} (hv : wb_rg v) (hl : wb_rg l) (hm : wb_rg m) : w96 T v l m = some (if l ≤ v ∧ v ≤ m then 1 else 0) := by
  unfold w96 wb_rg at *
  rw [wb_r2 hv hl, Option.bind_some]
  by_cases h1 : v < l
  · rw [if_pos h1, if_neg (by omega)]
  · rw [if_neg h1, wb_r2 hv hm, Option.bind_some]
    by_cases h2 : m < v
    · rw [if_pos h2, if_neg (by omega)]
    · rw [if_neg h2, if_pos (by omega)]
theorem wb_w98 {T : sw_T} {w q : Int} (hw : 0 ≤ w ∧ w < 7) (hq : 0 ≤ q ∧ q < 9) : w98 T w q = some (T 222 (8 + 9 * w + q)) := by
  unfold w98
  rw [wb_ld ⟨by omega, by omega⟩, Option.bind_some]
theorem wb_w99 {T : sw_T} {w q v : Int} (hw : 0 ≤ w ∧ w < 7) (hq : 0 ≤ q ∧ q < 9) : w99 T w q v = some (sw_up T 222 (8 + 9 * w + q) v) := by
  unfold w99
  rw [wb_st ⟨by omega, by omega⟩, Option.bind_some]
theorem wb_w100 {T : sw_T} {w q : Int} (hw : 0 ≤ w ∧ w < 7) (hq : 0 ≤ q ∧ q < 9) : w100 T w q = some (sw_up T 222 (8 + 9 * w + q) (T 222 (8 + 9 * w + q) + 1)) := by
  unfold w100
  rw [wb_ld ⟨by omega, by omega⟩, Option.bind_some, wb_st ⟨by omega, by omega⟩, Option.bind_some]
theorem wb_w101 {T : sw_T} {w p : Int} (hw : 0 ≤ w ∧ w < 7) (hp : 0 ≤ p ∧ p ≤ 16) : w101 T w p = some (T 222 (71 + 16 * w + p)) := by
  unfold w101
  rw [wb_ld ⟨by omega, by omega⟩, Option.bind_some]
theorem wb_w102 {T : sw_T} {s q : Int} (hs : 0 ≤ s ∧ s < 120) (hq : 0 ≤ q ∧ q < 3) : w102 T s q = some (T 222 (183 + 3 * s + q)) := by
  unfold w102
  rw [wb_ld ⟨by omega, by omega⟩, Option.bind_some]
theorem wb_w103 {T : sw_T} {s q v : Int} (hs : 0 ≤ s ∧ s < 120) (hq : 0 ≤ q ∧ q < 3) : w103 T s q v = some (sw_up T 222 (183 + 3 * s + q) v) := by
  unfold w103
  rw [wb_st ⟨by omega, by omega⟩, Option.bind_some]
/-- only the room at b has changed; only the reference's row -/
def wb_fc (b : Nat) (T T' : sw_T) : Prop := ∀ a, a < b ∨ b + 24 ≤ a → T' a = T a
def wb_fm (T T' : sw_T) : Prop := ∀ a, a ≠ 222 → T' a = T a
theorem wb_fc.rf {b : Nat} {T : sw_T} : wb_fc b T T := fun _ _ => rfl
theorem wb_fm.rf {T : sw_T} : wb_fm T T := fun _ _ => rfl
theorem wb_fc.tr {b : Nat} {T T1 T2 : sw_T} (h : wb_fc b T T1) (h2 : wb_fc b T1 T2) : wb_fc b T T2 := fun a ha => (h2 a ha).trans (h a ha)
theorem wb_fm.tr {T T1 T2 : sw_T} (h : wb_fm T T1) (h2 : wb_fm T1 T2) : wb_fm T T2 := fun a ha => (h2 a ha).trans (h a ha)
theorem wb_fc.up {b t : Nat} {T T1 : sw_T} {k v : Int} (h : wb_fc b T T1) (ht : t < 24) : wb_fc b T (sw_up T1 (b + t) k v) := fun a ha => by rw [sw_up_ne (by omega)]; exact h a ha
theorem wb_fm.up {T T1 : sw_T} {k v : Int} (h : wb_fm T T1) : wb_fm T (sw_up T1 222 k v) := fun a ha => by rw [sw_up_ne ha]; exact h a ha
theorem wb_up_st {T : sw_T} {b : Nat} {M : Int → Int} {w v : Int} (h : wb_rp T b M) (hw : 0 ≤ w ∧ w < 7) (t : Nat) (ht : (2 ≤ t ∧ t < 10) ∧ t ≠ 3) : wb_rp (sw_up T (b + t) w v) b (sw_ui M (8 + 9 * w + ((t : Int) - 2)) v) := by
  have := wb_up_seat (v := v) h hw t ht.1
  rw [if_neg ht.2, Int.add_zero] at this
  exact this
theorem wb_up_hd {T : sw_T} {b : Nat} {M : Int → Int} {w v : Int} (h : wb_rp T b M) (hw : 0 ≤ w ∧ w < 7) : wb_rp (sw_up T (b + 3) w v) b (sw_ui M (8 + 9 * w + 1) (v + 1)) := wb_up_seat (v := v) h hw 3 (by decide)
theorem wb_rd_st {T : sw_T} {b : Nat} {M : Int → Int} (h : wb_rp T b M) (h7 : T b 1 ≤ 7) {w : Int} (hw : 0 ≤ w ∧ w < T b 1) (t : Nat) (ht : (2 ≤ t ∧ t < 10) ∧ t ≠ 3) : M (8 + 9 * w + ((t : Int) - 2)) = T (b + t) w := by
  have := wb_rd_seat h h7 hw t ht.1
  rw [if_neg ht.2, Int.add_zero] at this
  exact this
theorem wb_rd_hd {T : sw_T} {b : Nat} {M : Int → Int} (h : wb_rp T b M) (h7 : T b 1 ≤ 7) {w : Int} (hw : 0 ≤ w ∧ w < T b 1) : M (8 + 9 * w + 1) = T (b + 3) w + 1 := wb_rd_seat h h7 hw 3 (by decide)
