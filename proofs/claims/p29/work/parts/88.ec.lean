/-! ===== every shirt that is not sewn is on one pile or in one hand: the loads' sum is the work that is left ===== -/
def wc_s (f : Int → Int) : List Int → Int
  | [] => 0
  | a :: l => f a + wc_s f l
theorem wc_s_app (f : Int → Int) : ∀ (l m : List Int), wc_s f (l ++ m) = wc_s f l + wc_s f m := by
  intro l
  induction l with
  | nil => intro m; show wc_s f m = 0 + wc_s f m; omega
  | cons a l ih =>
    intro m
    show f a + wc_s f (l ++ m) = f a + wc_s f l + wc_s f m
    rw [ih]
    omega
theorem wc_s_perm {f : Int → Int} {l m : List Int} (h : l.Perm m) : wc_s f l = wc_s f m := by
  induction h with
  | nil => rfl
  | cons a _ ih => show f a + _ = f a + _; rw [ih]
  | swap a b l => show f b + (f a + wc_s f l) = f a + (f b + wc_s f l); omega
  | trans _ _ h1 h2 => exact h1.trans h2
theorem wc_perm : ∀ (l m : List Int), l.Nodup → (∀ x ∈ l, x ∈ m) → m.length ≤ l.length → l.Perm m := by
  intro l
  induction l with
  | nil =>
    intro m _ _ h
    cases m with
    | nil => exact List.Perm.refl _
    | cons a m => simp at h
  | cons a l ih =>
    intro m hn hs hl
    have ha : a ∈ m := hs a List.mem_cons_self
    have hp := List.perm_cons_erase ha
    have hna : a ∉ l := (List.nodup_cons.mp hn).1
    refine List.Perm.trans (List.Perm.cons a (ih (m.erase a) (List.nodup_cons.mp hn).2 (fun x hx => ?_) ?_)) hp.symm
    · have hxa : x ≠ a := fun q => hna (q ▸ hx)
      exact (List.mem_erase_of_ne hxa).mpr (hs x (List.mem_cons_of_mem _ hx))
    · have := hp.length_eq
      simp only [List.length_cons] at this hl
      omega
/-- the shirts that are not sewn -/
def wc_R (g : Int → Int) : Nat → List Int
  | 0 => []
  | k + 1 => if g k = 2 then wc_R g k else (k : Int) :: wc_R g k
theorem wc_R_mem {g : Int → Int} {x : Int} : ∀ k : Nat, 0 ≤ x → x < k → g x ≠ 2 → x ∈ wc_R g k := by
  intro k
  induction k with
  | zero => intro h1 h2; omega
  | succ k ih =>
    intro h1 h2 h3
    unfold wc_R
    by_cases hx : x = k
    · subst hx
      rw [if_neg h3]
      exact List.mem_cons_self
    · have := ih h1 (by omega) h3
      split
      · exact this
      · exact List.mem_cons_of_mem _ this
theorem wc_R_len {g : Int → Int} : ∀ k : Nat, (∀ j : Nat, j < k → g j = 0 ∨ g j = 1 ∨ g j = 2) → ((wc_R g k).length : Int) = wb_ct g 0 k + wb_ct g 1 k := by
  intro k
  induction k with
  | zero => intro _; rfl
  | succ k ih =>
    intro h
    have h1 := ih (fun j hj => h j (by omega))
    unfold wc_R wb_ct
    rcases h k (Nat.lt_succ_self k) with h2 | h2 | h2
    · rw [h2, if_neg (by decide), List.length_cons, if_pos rfl, if_neg (by decide)]
      omega
    · rw [h2, if_neg (by decide), List.length_cons, if_neg (by decide), if_pos rfl]
      omega
    · rw [h2, if_pos rfl, if_neg (by decide), if_neg (by decide)]
      omega
theorem wc_R_sum {f g : Int → Int} : ∀ k : Nat, (∀ j : Nat, j < k → g j = 2 → f j = 0) → wc_s f (wc_R g k) = we_sw f k := by
  intro k
  induction k with
  | zero => intro _; rfl
  | succ k ih =>
    intro h
    have h1 := ih (fun j hj => h j (by omega))
    unfold wc_R we_sw
    split
    · rename_i h2
      rw [h1, h k (Nat.lt_succ_self k) h2]
      omega
    · show f k + wc_s f (wc_R g k) = _
      rw [h1]
      omega
/-- the shirts of a pile, of a seat, of all seats -/
def wc_P (p : Int → Int) : Nat → List Int
  | 0 => []
  | k + 1 => p k :: wc_P p k
theorem wc_P_mem {p : Int → Int} {x : Int} : ∀ k : Nat, x ∈ wc_P p k → ∃ j : Nat, j < k ∧ x = p j := by
  intro k
  induction k with
  | zero => intro h; simp [wc_P] at h
  | succ k ih =>
    intro h
    unfold wc_P at h
    rcases List.mem_cons.mp h with h | h
    · exact ⟨k, Nat.lt_succ_self k, h⟩
    · obtain ⟨j, h1, h2⟩ := ih h
      exact ⟨j, by omega, h2⟩
theorem wc_P_len {p : Int → Int} : ∀ k : Nat, (wc_P p k).length = k := by
  intro k
  induction k with
  | zero => rfl
  | succ k ih =>
    unfold wc_P
    rw [List.length_cons, ih]
theorem wc_P_nd {p : Int → Int} : ∀ k : Nat, (∀ i j : Nat, i < j → j < k → p i ≠ p j) → (wc_P p k).Nodup := by
  intro k
  induction k with
  | zero => intro _; exact List.nodup_nil
  | succ k ih =>
    intro h
    unfold wc_P
    refine List.nodup_cons.mpr ⟨fun hm => ?_, ih (fun i j h1 h2 => h i j h1 (by omega))⟩
    obtain ⟨j, h1, h2⟩ := wc_P_mem k hm
    exact h j k h1 (Nat.lt_succ_self k) h2.symm
theorem wc_P_sum {f p : Int → Int} : ∀ k : Nat, wc_s f (wc_P p k) = we_sw (fun j => f (p j)) k := by
  intro k
  induction k with
  | zero => rfl
  | succ k ih =>
    show f (p k) + wc_s f (wc_P p k) = we_sw (fun j => f (p j)) k + f (p k)
    rw [ih]
    omega
def wc_H (T : sw_T) (b : Nat) (w : Int) : List Int := (if T (b + 3) w = -1 then [] else [T (b + 3) w]) ++ wc_P (wb_pi T b w) (T (b + 11) w).toNat
def wc_L (T : sw_T) (b : Nat) : Nat → List Int
  | 0 => []
  | k + 1 => wc_H T b k ++ wc_L T b k
/-- her load -/
def wc_ld (T : sw_T) (b : Nat) (w : Int) : Int := (if T (b + 3) w = -1 then 0 else T (b + 21) (T (b + 3) w)) + we_sw (fun j => T (b + 21) (wb_pi T b w j)) (T (b + 11) w).toNat
theorem wc_H_sum {T : sw_T} {b : Nat} {w : Int} : wc_s (T (b + 21)) (wc_H T b w) = wc_ld T b w := by
  unfold wc_H wc_ld
  rw [wc_s_app, wc_P_sum]
  split
  · rfl
  · show T (b + 21) (T (b + 3) w) + 0 + _ = _
    omega
theorem wc_H_len {T : sw_T} {b : Nat} {w : Int} (h : 0 ≤ T (b + 11) w) : ((wc_H T b w).length : Int) = wb_hd T b w + T (b + 11) w := by
  unfold wc_H wb_hd
  rw [List.length_append, wc_P_len]
  split
  · show ((0 + (T (b + 11) w).toNat : Nat) : Int) = _
    omega
  · show ((1 + (T (b + 11) w).toNat : Nat) : Int) = _
    omega
theorem wc_H_mem {T : sw_T} {b : Nat} {N w x : Int} (I : wb_iv T b N) (hw : 0 ≤ w ∧ w < 7) (h : x ∈ wc_H T b w) : (0 ≤ x ∧ x < T (b + 20) 0) ∧ T (b + 22) x ≠ 2 ∧ T (b + 23) x = w := by
  unfold wc_H at h
  rcases List.mem_append.mp h with h | h
  · split at h
    · simp at h
    · rename_i hn
      rcases List.mem_singleton.mp h with rfl
      rcases (I.2.2.1 w hw).2.1 with q | ⟨q1, q2, q3, q4⟩
      · exact absurd q hn
      · exact ⟨⟨q1, q2⟩, by rw [q3]; decide, q4⟩
  · obtain ⟨j, h1, rfl⟩ := wc_P_mem _ h
    obtain ⟨q1, q2, q3⟩ := I.2.2.2.2.1 w j hw ⟨by omega, by omega⟩
    exact ⟨q1, by rw [q2]; decide, q3⟩
theorem wc_H_nd {T : sw_T} {b : Nat} {N w : Int} (I : wb_iv T b N) (hw : 0 ≤ w ∧ w < 7) : (wc_H T b w).Nodup := by
  have hp : (wc_P (wb_pi T b w) (T (b + 11) w).toNat).Nodup := wc_P_nd _ (fun i j h1 h2 => I.2.2.2.2.2.1 w i j hw ⟨by omega, by omega, by omega⟩)
  unfold wc_H
  split
  · exact hp
  · rename_i hn
    refine List.nodup_cons.mpr ⟨fun hm => ?_, hp⟩
    obtain ⟨j, h1, h2⟩ := wc_P_mem _ hm
    obtain ⟨q1, q2, q3⟩ := I.2.2.2.2.1 w j hw ⟨by omega, by omega⟩
    rcases (I.2.2.1 w hw).2.1 with q | ⟨-, -, q, -⟩
    · exact hn q
    · rw [h2, q2] at q
      exact absurd q (by decide)
theorem wc_L_mem {T : sw_T} {b : Nat} {N x : Int} (I : wb_iv T b N) : ∀ k : Nat, k ≤ 7 → x ∈ wc_L T b k → (0 ≤ x ∧ x < T (b + 20) 0) ∧ T (b + 22) x ≠ 2 ∧ T (b + 23) x < k := by
  intro k
  induction k with
  | zero => intro _ h; simp [wc_L] at h
  | succ k ih =>
    intro hk h
    unfold wc_L at h
    rcases List.mem_append.mp h with h | h
    · obtain ⟨h1, h2, h3⟩ := wc_H_mem I ⟨by omega, by omega⟩ h
      exact ⟨h1, h2, by omega⟩
    · obtain ⟨h1, h2, h3⟩ := ih (by omega) h
      exact ⟨h1, h2, by omega⟩
theorem wc_L_nd {T : sw_T} {b : Nat} {N : Int} (I : wb_iv T b N) : ∀ k : Nat, k ≤ 7 → (wc_L T b k).Nodup := by
  intro k
  induction k with
  | zero => intro _; exact List.nodup_nil
  | succ k ih =>
    intro hk
    unfold wc_L
    refine List.nodup_append.mpr ⟨wc_H_nd I ⟨by omega, by omega⟩, ih (by omega), fun x hx y hy e => ?_⟩
    subst e
    have h1 := (wc_H_mem I ⟨by omega, by omega⟩ hx).2.2
    have h2 := (wc_L_mem I k (by omega) hy).2.2
    omega
theorem wc_L_len {T : sw_T} {b : Nat} {N : Int} (I : wb_iv T b N) : ∀ k : Nat, k ≤ 7 → ((wc_L T b k).length : Int) = we_sw (wb_hd T b) k + we_sw (T (b + 11)) k := by
  intro k
  induction k with
  | zero => intro _; rfl
  | succ k ih =>
    intro hk
    have h1 := ih (by omega)
    have h2 := wc_H_len (T := T) (b := b) (w := k) (I.2.2.1 k ⟨by omega, by omega⟩).2.2.2.2.2.2.2.1
    unfold wc_L we_sw
    rw [List.length_append]
    omega
theorem wc_L_sum {T : sw_T} {b : Nat} : ∀ k : Nat, wc_s (T (b + 21)) (wc_L T b k) = we_sw (wc_ld T b) k := by
  intro k
  induction k with
  | zero => rfl
  | succ k ih =>
    unfold wc_L we_sw
    rw [wc_s_app, wc_H_sum, ih]
    omega
theorem we_sw_7 {f : Int → Int} : we_sw f 7 = wb_s7 f := by
  unfold wb_s7
  show 0 + f 0 + f 1 + f 2 + f 3 + f 4 + f 5 + f 6 = _
  omega
theorem we_sw_s7 {f : Int → Int} {n : Int} (hn : 0 ≤ n ∧ n ≤ 7) (h0 : ∀ w, n ≤ w ∧ w < 7 → f w = 0) : we_sw f n.toNat = wb_s7 f := by
  rw [← we_sw_7]
  obtain ⟨k, rfl⟩ := Int.eq_ofNat_of_zero_le hn.1
  have key : ∀ d : Nat, k + d ≤ 7 → we_sw f (k + d) = we_sw f k := by
    intro d
    induction d with
    | zero => intro _; rfl
    | succ d ih =>
      intro hd
      show we_sw f (k + d) + f ((k + d : Nat) : Int) = _
      rw [ih (by omega), h0 _ ⟨by omega, by omega⟩]
      omega
  have := key (7 - k) (by omega)
  rw [show k + (7 - k) = 7 by omega] at this
  rw [this]
  rfl
/-- all loads are all work -/
theorem wc_all {T : sw_T} {b : Nat} {N : Int} (I : wb_iv T b N) (E : we_E T b) : we_sw (wc_ld T b) (T b 1).toNat = we_W T b := by
  have h1 := I.2.1.2.1
  have hc := I.2.1.2.2.2.2
  obtain ⟨j0, j1, -⟩ := I.2.2.2.2.2.2.2
  have e1 : we_sw (wc_ld T b) (T b 1).toNat = we_sw (wc_ld T b) 7 := by
    rw [we_sw_7]
    refine we_sw_s7 ⟨by omega, h1.2⟩ (fun w hw => ?_)
    obtain ⟨c1, -, -, -, -, -, -, c8⟩ := I.2.2.2.1 w hw
    unfold wc_ld
    rw [c1, c8, if_pos rfl]
    rfl
  rw [e1, ← wc_L_sum]
  have hst : ∀ j : Nat, j < (T (b + 20) 0).toNat → T (b + 22) j = 0 ∨ T (b + 22) j = 1 ∨ T (b + 22) j = 2 := fun j hj => by
    have := (I.2.2.2.2.2.2.1 j ⟨by omega, by omega⟩).2.1
    omega
  have hp : (wc_L T b 7).Perm (wc_R (T (b + 22)) (T (b + 20) 0).toNat) := by
    refine wc_perm _ _ (wc_L_nd I 7 (Nat.le_refl _)) (fun x hx => ?_) ?_
    · obtain ⟨q1, q2, -⟩ := wc_L_mem I 7 (Nat.le_refl _) hx
      exact wc_R_mem _ q1.1 (by omega) q2
    · have l1 := wc_L_len I 7 (Nat.le_refl _)
      have l2 := wc_R_len (g := T (b + 22)) (T (b + 20) 0).toNat hst
      rw [we_sw_7, we_sw_7, ← j0, ← j1] at l1
      omega
  rw [wc_s_perm hp]
  exact wc_R_sum _ (fun j hj h2 => (E.2 j ⟨by omega, by omega⟩).mpr h2)
/-! the class's own sums, by their values -/
theorem wc_w57_4 {T : sw_T} {b : Nat} {N : Int} (I : wb_iv T b N) : ∀ (k l : Nat), (l : Int) + k = T (b + 20) 0 → ∀ m, k < m → w57_4 b T m (we_sw (T (b + 21)) l) l = some (we_W T b) := by
  have hc := I.2.1.2.2.2.2
  have hnn : ∀ n : Nat, (n : Int) ≤ T (b + 20) 0 → 0 ≤ we_sw (T (b + 21)) n := fun n hn => we_sw_nn n (fun j hj => (I.2.2.2.2.2.2.1 j ⟨by omega, by omega⟩).1.1)
  intro k
  induction k with
  | zero =>
    intro l hl m hm
    obtain ⟨m, rfl⟩ : ∃ q, m = q + 1 := ⟨m - 1, by omega⟩
    unfold w57_4
    rw [wb_r2 (a := l) (b := T (b + 20) 0) ⟨by omega, by omega⟩ ⟨by omega, by omega⟩, Option.bind_some, if_neg (by omega)]
    unfold we_W
    rw [show (T (b + 20) 0).toNat = l by omega]
  | succ k ih =>
    intro l hl m hm
    obtain ⟨m, rfl⟩ : ∃ q, m = q + 1 := ⟨m - 1, by omega⟩
    have h9 := ih (l + 1) (by omega) m (by omega)
    unfold w57_4
    rw [wb_r2 (a := l) (b := T (b + 20) 0) ⟨by omega, by omega⟩ ⟨by omega, by omega⟩, Option.bind_some, if_pos (by omega), wb_r2 (a := l) (b := 120) ⟨by omega, by omega⟩ (by decide), Option.bind_some, if_pos (by omega), wb_ld ⟨by omega, by omega⟩, Option.bind_some]
    exact h9
theorem wc_w57 {T : sw_T} {b : Nat} {N : Int} (I : wb_iv T b N) : w57 b T = some (we_W T b) := by
  have hc := I.2.1.2.2.2.2
  unfold w57
  have := wc_w57_4 I (T (b + 20) 0).toNat 0 (by omega) sw_N (by unfold sw_N; omega)
  rw [show w57_4 b T sw_N 0 0 = some (we_W T b) from this, Option.bind_some]
theorem wc_W_rg {T : sw_T} {b : Nat} {N : Int} (I : wb_iv T b N) : 0 ≤ we_W T b ∧ we_W T b ≤ 11880 := by
  obtain ⟨v, e1, -, e3, e4⟩ := wb_left (Tm := wq_TM (wb_en T b)) I (fun j _ => rfl)
  rw [wc_w57 I] at e1
  cases e1
  exact ⟨e3, e4⟩
theorem wc_w44_26 {T : sw_T} {b : Nat} {N w s0 : Int} (I : wb_iv T b N) (hw : 0 ≤ w ∧ w < 7) : ∀ (k l : Nat), (l : Int) + k = T (b + 11) w → ∀ m, k + 17 < m → w44_26 b T w m (s0 + we_sw (fun j => T (b + 21) (wb_pi T b w j)) l) l = some (s0 + we_sw (fun j => T (b + 21) (wb_pi T b w j)) (T (b + 11) w).toNat) := by
  have hc := I.2.1.2.2.2.2
  have h16 := (I.2.2.1 w hw).2.2.2.2.2.2.2
  intro k
  induction k with
  | zero =>
    intro l hl m hm
    rw [wb_w44_hi I hw 16 l _ (by omega) (by omega) (by omega) (by omega) m (by omega), show (T (b + 11) w).toNat = l by omega]
  | succ k ih =>
    intro l hl m hm
    obtain ⟨m, rfl⟩ : ∃ q, m = q + 1 := ⟨m - 1, by omega⟩
    obtain ⟨hs, -, -⟩ := I.2.2.2.2.1 w l hw ⟨by omega, by omega⟩
    have h9 := ih (l + 1) (by omega) m (by omega)
    unfold w44_26
    rw [wb_r2 (a := l) (b := 16) ⟨by omega, by omega⟩ (by decide), Option.bind_some, if_pos (by omega), wb_w19 hw ⟨by omega, by omega⟩ h16, Option.bind_some, if_pos ⟨by omega, by omega⟩, wb_w53y hc hs, Option.bind_some, Int.add_assoc]
    exact h9
theorem wc_w44 {T : sw_T} {b : Nat} {N w : Int} (I : wb_iv T b N) (hw : 0 ≤ w ∧ w < T b 1) : w44 b T w = some (wc_ld T b w) ∧ (0 ≤ wc_ld T b w ∧ wc_ld T b w ≤ 1683) := by
  have h1 : 2 ≤ T b 1 ∧ T b 1 ≤ 7 := I.2.1.2.1
  have hc := I.2.1.2.2.2.2
  have hw7 : 0 ≤ w ∧ w < 7 := ⟨hw.1, by omega⟩
  obtain ⟨-, hha, -, -, -, -, -, h16⟩ := I.2.2.1 w hw7
  have key : w44 b T w = some (wc_ld T b w) := by
    unfold w44 wc_ld
    rw [wb_w25y h1 hw, Option.bind_some, wb_r1 (a := 1) (by decide), Option.bind_some, if_neg (show ¬ (1 : Int) = 0 by decide), wb_ld (T := T) (a := b + 3) (m := 7) (j := w) hw7, Option.bind_some]
    rcases hha with hha | ⟨q1, q2, -, -⟩
    · have := wc_w44_26 (s0 := 0) I hw7 (T (b + 11) w).toNat 0 (by omega) sw_N (by unfold sw_N; omega)
      rw [hha, wb_w53n, Option.bind_some, if_pos rfl, show w44_26 b T w sw_N 0 0 = _ from this, Option.bind_some]
    · have := wc_w44_26 (s0 := T (b + 21) (T (b + 3) w)) I hw7 (T (b + 11) w).toNat 0 (by omega) sw_N (by unfold sw_N; omega)
      have h0 : we_sw (fun j => T (b + 21) (wb_pi T b w j)) 0 = 0 := rfl
      rw [h0, Int.add_zero] at this
      rw [wb_w53y hc ⟨q1, q2⟩, Option.bind_some, if_neg (by omega), show w44_26 b T w sw_N (T (b + 21) (T (b + 3) w)) 0 = _ from this, Option.bind_some]
  obtain ⟨v, e1, -, e3⟩ := wb_load (Tm := wq_TM (wb_en T b)) I (fun j _ => rfl) hw
  rw [key] at e1
  cases e1
  exact ⟨key, e3⟩
