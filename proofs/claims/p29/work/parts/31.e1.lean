/-! ===== the methods as functions over tables ===== -/
theorem qk28_74 : sw_ck 28 74 14 0 1 3 2 = true := by decide +kernel
theorem qr28 : sq_ret 28 = some .boolean := by decide +kernel
theorem qc28 : sq_c 28 = 3 := by decide +kernel
theorem qk28_78 : sw_ck 28 78 7 0 1 2 2 = true := by decide +kernel
-- 28: SewingPiles$Room.canBeTakenFrom(I)Z
def w39 (b : Nat) (T : sw_T) (p1 : Int) : Option (Int) :=
  (w25 b T p1).bind fun r2 =>
  (sw_r1 r2).bind fun _u =>
  if r2 = 0 then
    some (0)
  else
    (w18 b T p1).bind fun r6 =>
    (sw_r2 r6 2).bind fun _u =>
    if r6 < 2 then
      (sw_r2 r6 1).bind fun _u =>
      if r6 = 1 then
        (sw_ld T (b + 5) 7 p1).bind fun v12 =>
        (sw_r1 v12).bind fun _u =>
        if v12 = 0 then
          (sw_ld T (b + 3) 7 p1).bind fun v16 =>
          (sw_r2 v16 (-1)).bind fun _u =>
          if v16 = (-1) then
            some (0)
          else
            some (1)
        else
          some (1)
      else
        some (0)
    else
      some (1)
theorem A28 {G : sp_G} {z n : Nat} (hn : 221 ≤ n) {b : Nat} (hb : b ∈ sw_rm) {T : sw_T} {K : sw_K} {p1 : Int} {res : Int} {Q : sp_R → sp_M → Prop} (h : w39 b T p1 = some res) (kk : Q (.inl (some (.int (Int32.ofInt res)))) (sw_M z n sw_Ft T K)) : sq_go G 28 0 [some (.ref (z + b)), some (.int (Int32.ofInt p1)), none] [] (sw_M z n sw_Ft T K) Q := by
  unfold w39 at h
  refine go_l qd28_0 rfl ?_
  refine go_l qd28_1 rfl ?_
  obtain ⟨r2, e1, h⟩ := sw_bind h
  refine ga_kv (a := b) (as := [.int (Int32.ofInt p1)]) (rest := []) qd28_2 qk28_74 (sw_rb hn hb) rfl rfl rfl (Nat.le_of_ble_eq_true rfl) (Nat.le_of_ble_eq_true rfl) rfl (A14 hn hb e1 (sw_bkv ?_))
  obtain ⟨_u, e3, h⟩ := sw_bind h
  by_cases hb4 : r2 = 0
  · replace h := sw_ifY hb4 h
    refine ga_zneY (t := 10) qd28_5 e3 hb4 rfl ?_
    refine go_s qd28_8 rfl ?_
    rw [← sw_sj h] at kk
    exact ga_rb (u := ()) qd28_9 qr28 (by decide) kk
  · replace h := sw_ifN hb4 h
    refine ga_zneN (t := 10) qd28_5 e3 hb4 rfl ?_
    refine go_l qd28_10 rfl ?_
    refine ga_gf (v := .ref (z + (b + 10))) qd28_11 qc28 qf3_47 (sw_rb hn hb) rfl rfl ?_
    refine go_l qd28_14 rfl ?_
    obtain ⟨r6, e5, h⟩ := sw_bind h
    refine ga_kv (a := (b + 10)) (as := [.int (Int32.ofInt p1)]) (rest := []) qd28_15 qk28_78 (sw_rk hn hb 10 (by decide)) rfl rfl rfl (Nat.le_of_ble_eq_true rfl) (Nat.le_of_ble_eq_true rfl) rfl (A7 hn hb e5 (sw_bkv ?_))
    refine go_l (L' := [some (.ref (z + b)), some (.int (Int32.ofInt p1)), some (.int (Int32.ofInt r6))]) (st' := []) qd28_18 rfl ?_
    refine go_l qd28_19 rfl ?_
    refine go_s qd28_20 rfl ?_
    obtain ⟨_u, e7, h⟩ := sw_bind h
    by_cases hb8 : r6 < 2
    · replace h := sw_ifY hb8 h
      refine ga_cgeY (t := 48) qd28_21 e7 hb8 rfl ?_
      refine go_l qd28_24 rfl ?_
      refine go_s qd28_25 rfl ?_
      obtain ⟨_u, e9, h⟩ := sw_bind h
      by_cases hb10 : r6 = 1
      · replace h := sw_ifY hb10 h
        refine ga_cneY (t := 52) qd28_26 e9 hb10 rfl ?_
        refine go_l qd28_29 rfl ?_
        refine ga_gf (v := .ref (z + (b + 5))) qd28_30 qc28 qf3_28 (sw_rb hn hb) rfl rfl ?_
        refine go_l qd28_33 rfl ?_
        obtain ⟨v12, e11, h⟩ := sw_bind h
        refine ga_bald qd28_34 (sw_rk hn hb 5 (by decide)) e11 ?_
        obtain ⟨_u, e13, h⟩ := sw_bind h
        by_cases hb14 : v12 = 0
        · replace h := sw_ifY hb14 h
          refine ga_zneY (t := 48) qd28_35 e13 hb14 rfl ?_
          refine go_l qd28_38 rfl ?_
          refine ga_gf (v := .ref (z + (b + 3))) qd28_39 qc28 qf3_22 (sw_rb hn hb) rfl rfl ?_
          refine go_l qd28_42 rfl ?_
          obtain ⟨v16, e15, h⟩ := sw_bind h
          refine ga_iald qd28_43 (sw_rk hn hb 3 (by decide)) e15 ?_
          refine go_s qd28_44 rfl ?_
          obtain ⟨_u, e17, h⟩ := sw_bind h
          by_cases hb18 : v16 = (-1)
          · replace h := sw_ifY hb18 h
            refine ga_ceqY (t := 52) qd28_45 e17 hb18 rfl ?_
            refine go_s qd28_52 rfl ?_
            rw [← sw_sj h] at kk
            exact ga_rb (u := ()) qd28_53 qr28 (by decide) kk
          · replace h := sw_ifN hb18 h
            refine ga_ceqN (t := 52) qd28_45 e17 hb18 rfl ?_
            refine go_s qd28_48 rfl ?_
            refine ga_jp (t := 53) qd28_49 rfl ?_
            rw [← sw_sj h] at kk
            exact ga_rb (u := ()) qd28_53 qr28 (by decide) kk
        · replace h := sw_ifN hb14 h
          refine ga_zneN (t := 48) qd28_35 e13 hb14 rfl ?_
          refine go_s qd28_48 rfl ?_
          refine ga_jp (t := 53) qd28_49 rfl ?_
          rw [← sw_sj h] at kk
          exact ga_rb (u := ()) qd28_53 qr28 (by decide) kk
      · replace h := sw_ifN hb10 h
        refine ga_cneN (t := 52) qd28_26 e9 hb10 rfl ?_
        refine go_s qd28_52 rfl ?_
        rw [← sw_sj h] at kk
        exact ga_rb (u := ()) qd28_53 qr28 (by decide) kk
    · replace h := sw_ifN hb8 h
      refine ga_cgeN (t := 48) qd28_21 e7 hb8 rfl ?_
      refine go_s qd28_48 rfl ?_
      refine ga_jp (t := 53) qd28_49 rfl ?_
      rw [← sw_sj h] at kk
      exact ga_rb (u := ()) qd28_53 qr28 (by decide) kk
theorem qc29 : sq_c 29 = 3 := by decide +kernel
theorem qk29_78 : sw_ck 29 78 7 0 1 2 2 = true := by decide +kernel
theorem qr29 : sq_ret 29 = some .int := by decide +kernel
theorem qk29_142 : sw_ck 29 142 8 0 2 2 3 = true := by decide +kernel
theorem qk29_123 : sw_ck 29 123 41 0 1 4 2 = true := by decide +kernel
-- 29: SewingPiles$Room.merit(II)I
def w40 (b : Nat) (T : sw_T) (p1 : Int) (p2 : Int) : Option (Int) :=
  (sw_ld T (b + 1) 3 1).bind fun v2 =>
  (sw_r1 v2).bind fun _u =>
  if v2 = 0 then
    (w18 b T p2).bind fun r6 =>
    some (r6)
  else
  if v2 = 1 then
    (sw_r2 p2 p1).bind fun _u =>
    if p1 < p2 then
      some (((T b 1) - (p2 - p1)))
    else
      some ((p1 - p2))
  else
    (w19 b T p2 0).bind fun r11 =>
    (w53 b T r11).bind fun r13 =>
    some (r13)
theorem A29 {G : sp_G} {z n : Nat} (hn : 221 ≤ n) {b : Nat} (hb : b ∈ sw_rm) {T : sw_T} {K : sw_K} {p1 : Int} {p2 : Int} {res : Int} {Q : sp_R → sp_M → Prop} (h : w40 b T p1 p2 = some res) (kk : Q (.inl (some (.int (Int32.ofInt res)))) (sw_M z n sw_Ft T K)) : sq_go G 29 0 [some (.ref (z + b)), some (.int (Int32.ofInt p1)), some (.int (Int32.ofInt p2))] [] (sw_M z n sw_Ft T K) Q := by
  unfold w40 at h
  refine go_l qd29_0 rfl ?_
  refine ga_gf (v := .ref (z + (b + 1))) qd29_1 qc29 qf3_15 (sw_rb hn hb) rfl rfl ?_
  refine go_s qd29_4 rfl ?_
  obtain ⟨v2, e1, h⟩ := sw_bind h
  refine ga_iald qd29_5 (sw_rk hn hb 1 (by decide)) e1 ?_
  obtain ⟨_u, e3, h⟩ := sw_bind h
  by_cases hb4 : v2 = 0
  · replace h := sw_ifY hb4 h
    refine ga_sw (t := 32) qd29_6 rfl hb4 rfl ?_
    refine go_l qd29_32 rfl ?_
    refine ga_gf (v := .ref (z + (b + 10))) qd29_33 qc29 qf3_47 (sw_rb hn hb) rfl rfl ?_
    refine go_l qd29_36 rfl ?_
    obtain ⟨r6, e5, h⟩ := sw_bind h
    refine ga_kv (a := (b + 10)) (as := [.int (Int32.ofInt p2)]) (rest := []) qd29_37 qk29_78 (sw_rk hn hb 10 (by decide)) rfl rfl rfl (Nat.le_of_ble_eq_true rfl) (Nat.le_of_ble_eq_true rfl) rfl (A7 hn hb e5 (sw_bkv ?_))
    rw [← sw_sj h] at kk
    exact ga_ri qd29_40 qr29 kk
  · replace h := sw_ifN hb4 h
    by_cases hb7 : v2 = 1
    · replace h := sw_ifY hb7 h
      refine ga_sw (t := 41) qd29_6 rfl hb7 rfl ?_
      refine go_l qd29_41 rfl ?_
      refine go_l qd29_42 rfl ?_
      obtain ⟨_u, e8, h⟩ := sw_bind h
      by_cases hb9 : p1 < p2
      · replace h := sw_ifY hb9 h
        refine ga_cleY (t := 57) qd29_43 e8 hb9 rfl ?_
        refine go_l qd29_46 rfl ?_
        refine ga_gf (v := .int (Int32.ofInt (T b 1))) qd29_47 qc29 qf3_9 (sw_rb hn hb) rfl rfl ?_
        refine go_l qd29_50 rfl ?_
        refine go_l qd29_51 rfl ?_
        refine ga_isub qd29_52 ?_
        refine ga_isub qd29_53 ?_
        refine ga_jp (t := 60) qd29_54 rfl ?_
        rw [← sw_sj h] at kk
        exact ga_ri qd29_60 qr29 kk
      · replace h := sw_ifN hb9 h
        refine ga_cleN (t := 57) qd29_43 e8 hb9 rfl ?_
        refine go_l qd29_57 rfl ?_
        refine go_l qd29_58 rfl ?_
        refine ga_isub qd29_59 ?_
        rw [← sw_sj h] at kk
        exact ga_ri qd29_60 qr29 kk
    · replace h := sw_ifN hb7 h
      refine ga_lsd (t := 61) qd29_6 e3 (by decide) (by intro p hp; simp only [List.mem_cons, List.not_mem_nil, or_false] at hp; rcases hp with rfl | rfl <;> (dsimp only; omega)) rfl ?_
      refine go_l qd29_61 rfl ?_
      refine ga_gf (v := .ref (z + (b + 20))) qd29_62 qc29 qf3_54 (sw_rb hn hb) rfl rfl ?_
      refine go_l qd29_65 rfl ?_
      refine ga_gf (v := .ref (z + (b + 10))) qd29_66 qc29 qf3_47 (sw_rb hn hb) rfl rfl ?_
      refine go_l qd29_69 rfl ?_
      refine go_s qd29_70 rfl ?_
      obtain ⟨r11, e10, h⟩ := sw_bind h
      refine ga_kv (a := (b + 10)) (as := [.int (Int32.ofInt p2), .int (Int32.ofInt 0)]) (rest := [.ref (z + (b + 20))]) qd29_71 qk29_142 (sw_rk hn hb 10 (by decide)) rfl rfl rfl (Nat.le_of_ble_eq_true rfl) (Nat.le_of_ble_eq_true rfl) rfl (A8 hn hb e10 (sw_bkv ?_))
      obtain ⟨r13, e12, h⟩ := sw_bind h
      refine ga_kv (a := (b + 20)) (as := [.int (Int32.ofInt r11)]) (rest := []) qd29_74 qk29_123 (sw_rk hn hb 20 (by decide)) rfl rfl rfl (Nat.le_of_ble_eq_true rfl) (Nat.le_of_ble_eq_true rfl) rfl (A41 hn hb e12 (sw_bkv ?_))
      rw [← sw_sj h] at kk
      exact ga_ri qd29_77 qr29 kk
theorem qc27 : sq_c 27 = 3 := by decide +kernel
theorem qk27_136 : sw_ck 27 136 28 0 1 3 3 = true := by decide +kernel
theorem qk27_139 : sw_ck 27 139 29 0 2 3 3 = true := by decide +kernel
theorem qr27 : sq_ret 27 = some .int := by decide +kernel
-- 27: SewingPiles$Room.chosenPile(I)I
def w38_7 (b : Nat) (T : sw_T) (l1 : Int) : Nat → Int → Int → Int → Option (Int)
  | 0, _, _, _ => none
  | m + 1, l2, l3, l4 =>
    (sw_r2 l4 (T b 1)).bind fun _u =>
    if l4 < (T b 1) then
      (sw_r2 l4 7).bind fun _u =>
      if l4 < 7 then
        (sw_r2 l4 l1).bind fun _u =>
        if l4 = l1 then
          w38_7 b T l1 m l2 l3 (l4 + 1)
        else
          (w39 b T l4).bind fun r8 =>
          (sw_r1 r8).bind fun _u =>
          if r8 = 0 then
            w38_7 b T l1 m l2 l3 (l4 + 1)
          else
            (w40 b T l1 l4).bind fun r12 =>
            (sw_r2 l2 (-1)).bind fun _u =>
            if l2 = (-1) then
              w38_7 b T l1 m l4 r12 (l4 + 1)
            else
              (sw_r2 r12 l3).bind fun _u =>
              if l3 < r12 then
                w38_7 b T l1 m l4 r12 (l4 + 1)
              else
                w38_7 b T l1 m l2 l3 (l4 + 1)
      else
        some (l2)
    else
      some (l2)
theorem B27_7 {G : sp_G} {z n : Nat} (hn : 221 ≤ n) {b : Nat} (hb : b ∈ sw_rm) {T : sw_T} {l1 : Int} {K : sw_K} {res : Int} {Q : sp_R → sp_M → Prop} (kk : sq_go G 27 70 [none, none, some (.int (Int32.ofInt res)), none, none, none] [] (sw_M z n sw_Ft T K) Q) : ∀ (m : Nat) (l2 : Int) (l3 : Int) (l4 : Int), w38_7 b T l1 m l2 l3 l4 = some res → sq_go G 27 7 [some (.ref (z + b)), some (.int (Int32.ofInt l1)), some (.int (Int32.ofInt l2)), some (.int (Int32.ofInt l3)), some (.int (Int32.ofInt l4)), none] [] (sw_M z n sw_Ft T K) Q := by
  intro m
  induction m with
  | zero => intro l2 l3 l4 h; cases h
  | succ m ih =>
    intro l2 l3 l4 h
    rw [w38_7] at h
    refine go_l qd27_7 rfl ?_
    refine go_l qd27_9 rfl ?_
    refine ga_gf (v := .int (Int32.ofInt (T b 1))) qd27_10 qc27 qf3_9 (sw_rb hn hb) rfl rfl ?_
    obtain ⟨_u, e1, h⟩ := sw_bind h
    by_cases hb2 : l4 < (T b 1)
    · replace h := sw_ifY hb2 h
      refine ga_cgeY (t := 70) qd27_13 e1 hb2 rfl ?_
      refine go_l qd27_16 rfl ?_
      refine ga_k8 qd27_18 rfl ?_
      obtain ⟨_u, e3, h⟩ := sw_bind h
      by_cases hb4 : l4 < 7
      · replace h := sw_ifY hb4 h
        refine ga_cgeY (t := 70) qd27_20 e3 hb4 rfl ?_
        refine go_l qd27_23 rfl ?_
        refine go_l qd27_25 rfl ?_
        obtain ⟨_u, e5, h⟩ := sw_bind h
        by_cases hb6 : l4 = l1
        · replace h := sw_ifY hb6 h
          refine ga_ceqY (t := 64) qd27_26 e5 hb6 rfl ?_
          refine ga_ii (L' := [some (.ref (z + b)), some (.int (Int32.ofInt l1)), some (.int (Int32.ofInt l2)), some (.int (Int32.ofInt l3)), some (.int (Int32.ofInt (l4 + 1))), none]) qd27_64 rfl rfl ?_
          refine ga_jp (t := 7) qd27_67 rfl ?_
          exact sq_weak (L := [some (.ref (z + b)), some (.int (Int32.ofInt l1)), some (.int (Int32.ofInt l2)), some (.int (Int32.ofInt l3)), some (.int (Int32.ofInt (l4 + 1))), none]) ⟨rfl, rfl, rfl, rfl, rfl, trivial⟩ (ih _ _ _ h)
        · replace h := sw_ifN hb6 h
          refine ga_ceqN (t := 64) qd27_26 e5 hb6 rfl ?_
          refine go_l qd27_29 rfl ?_
          refine go_l qd27_30 rfl ?_
          obtain ⟨r8, e7, h⟩ := sw_bind h
          refine ga_kv (a := b) (as := [.int (Int32.ofInt l4)]) (rest := []) qd27_32 qk27_136 (sw_rb hn hb) rfl rfl rfl (Nat.le_of_ble_eq_true rfl) (Nat.le_of_ble_eq_true rfl) rfl (A28 hn hb e7 (sw_bkv ?_))
          obtain ⟨_u, e9, h⟩ := sw_bind h
          by_cases hb10 : r8 = 0
          · replace h := sw_ifY hb10 h
            refine ga_zeqY (t := 64) qd27_35 e9 hb10 rfl ?_
            refine ga_ii (L' := [some (.ref (z + b)), some (.int (Int32.ofInt l1)), some (.int (Int32.ofInt l2)), some (.int (Int32.ofInt l3)), some (.int (Int32.ofInt (l4 + 1))), none]) qd27_64 rfl rfl ?_
            refine ga_jp (t := 7) qd27_67 rfl ?_
            exact sq_weak (L := [some (.ref (z + b)), some (.int (Int32.ofInt l1)), some (.int (Int32.ofInt l2)), some (.int (Int32.ofInt l3)), some (.int (Int32.ofInt (l4 + 1))), none]) ⟨rfl, rfl, rfl, rfl, rfl, trivial⟩ (ih _ _ _ h)
          · replace h := sw_ifN hb10 h
            refine ga_zeqN (t := 64) qd27_35 e9 hb10 rfl ?_
            refine go_l qd27_38 rfl ?_
            refine go_l qd27_39 rfl ?_
            refine go_l qd27_40 rfl ?_
            obtain ⟨r12, e11, h⟩ := sw_bind h
            refine ga_kv (a := b) (as := [.int (Int32.ofInt l1), .int (Int32.ofInt l4)]) (rest := []) qd27_42 qk27_139 (sw_rb hn hb) rfl rfl rfl (Nat.le_of_ble_eq_true rfl) (Nat.le_of_ble_eq_true rfl) rfl (A29 hn hb e11 (sw_bkv ?_))
            refine go_l (L' := [some (.ref (z + b)), some (.int (Int32.ofInt l1)), some (.int (Int32.ofInt l2)), some (.int (Int32.ofInt l3)), some (.int (Int32.ofInt l4)), some (.int (Int32.ofInt r12))]) (st' := []) qd27_45 rfl ?_
            refine go_l qd27_47 rfl ?_
            refine go_s qd27_48 rfl ?_
            obtain ⟨_u, e13, h⟩ := sw_bind h
            by_cases hb14 : l2 = (-1)
            · replace h := sw_ifY hb14 h
              refine ga_ceqY (t := 58) qd27_49 e13 hb14 rfl ?_
              refine go_l qd27_58 rfl ?_
              refine go_l (L' := [some (.ref (z + b)), some (.int (Int32.ofInt l1)), some (.int (Int32.ofInt l4)), some (.int (Int32.ofInt l3)), some (.int (Int32.ofInt l4)), some (.int (Int32.ofInt r12))]) (st' := []) qd27_60 rfl ?_
              refine go_l qd27_61 rfl ?_
              refine go_l (L' := [some (.ref (z + b)), some (.int (Int32.ofInt l1)), some (.int (Int32.ofInt l4)), some (.int (Int32.ofInt r12)), some (.int (Int32.ofInt l4)), some (.int (Int32.ofInt r12))]) (st' := []) qd27_63 rfl ?_
              refine ga_ii (L' := [some (.ref (z + b)), some (.int (Int32.ofInt l1)), some (.int (Int32.ofInt l4)), some (.int (Int32.ofInt r12)), some (.int (Int32.ofInt (l4 + 1))), some (.int (Int32.ofInt r12))]) qd27_64 rfl rfl ?_
              refine ga_jp (t := 7) qd27_67 rfl ?_
              exact sq_weak (L := [some (.ref (z + b)), some (.int (Int32.ofInt l1)), some (.int (Int32.ofInt l4)), some (.int (Int32.ofInt r12)), some (.int (Int32.ofInt (l4 + 1))), none]) ⟨rfl, rfl, rfl, rfl, rfl, trivial⟩ (ih _ _ _ h)
            · replace h := sw_ifN hb14 h
              refine ga_ceqN (t := 58) qd27_49 e13 hb14 rfl ?_
              refine go_l qd27_52 rfl ?_
              refine go_l qd27_54 rfl ?_
              obtain ⟨_u, e15, h⟩ := sw_bind h
              by_cases hb16 : l3 < r12
              · replace h := sw_ifY hb16 h
                refine ga_cleY (t := 64) qd27_55 e15 hb16 rfl ?_
                refine go_l qd27_58 rfl ?_
                refine go_l (L' := [some (.ref (z + b)), some (.int (Int32.ofInt l1)), some (.int (Int32.ofInt l4)), some (.int (Int32.ofInt l3)), some (.int (Int32.ofInt l4)), some (.int (Int32.ofInt r12))]) (st' := []) qd27_60 rfl ?_
                refine go_l qd27_61 rfl ?_
                refine go_l (L' := [some (.ref (z + b)), some (.int (Int32.ofInt l1)), some (.int (Int32.ofInt l4)), some (.int (Int32.ofInt r12)), some (.int (Int32.ofInt l4)), some (.int (Int32.ofInt r12))]) (st' := []) qd27_63 rfl ?_
                refine ga_ii (L' := [some (.ref (z + b)), some (.int (Int32.ofInt l1)), some (.int (Int32.ofInt l4)), some (.int (Int32.ofInt r12)), some (.int (Int32.ofInt (l4 + 1))), some (.int (Int32.ofInt r12))]) qd27_64 rfl rfl ?_
                refine ga_jp (t := 7) qd27_67 rfl ?_
                exact sq_weak (L := [some (.ref (z + b)), some (.int (Int32.ofInt l1)), some (.int (Int32.ofInt l4)), some (.int (Int32.ofInt r12)), some (.int (Int32.ofInt (l4 + 1))), none]) ⟨rfl, rfl, rfl, rfl, rfl, trivial⟩ (ih _ _ _ h)
              · replace h := sw_ifN hb16 h
                refine ga_cleN (t := 64) qd27_55 e15 hb16 rfl ?_
                refine ga_ii (L' := [some (.ref (z + b)), some (.int (Int32.ofInt l1)), some (.int (Int32.ofInt l2)), some (.int (Int32.ofInt l3)), some (.int (Int32.ofInt (l4 + 1))), some (.int (Int32.ofInt r12))]) qd27_64 rfl rfl ?_
                refine ga_jp (t := 7) qd27_67 rfl ?_
                exact sq_weak (L := [some (.ref (z + b)), some (.int (Int32.ofInt l1)), some (.int (Int32.ofInt l2)), some (.int (Int32.ofInt l3)), some (.int (Int32.ofInt (l4 + 1))), none]) ⟨rfl, rfl, rfl, rfl, rfl, trivial⟩ (ih _ _ _ h)
      · replace h := sw_ifN hb4 h
        refine ga_cgeN (t := 70) qd27_20 e3 hb4 rfl ?_
        rw [← sw_sj h] at kk
        exact sq_weak (L := [none, none, some (.int (Int32.ofInt l2)), none, none, none]) ⟨rfl, trivial⟩ kk
    · replace h := sw_ifN hb2 h
      refine ga_cgeN (t := 70) qd27_13 e1 hb2 rfl ?_
      rw [← sw_sj h] at kk
      exact sq_weak (L := [none, none, some (.int (Int32.ofInt l2)), none, none, none]) ⟨rfl, trivial⟩ kk
def w38 (b : Nat) (T : sw_T) (p1 : Int) : Option (Int) :=
  (w38_7 b T p1 sw_N (-1) 0 0).bind fun x17 =>
  some (x17)
theorem A27 {G : sp_G} {z n : Nat} (hn : 221 ≤ n) {b : Nat} (hb : b ∈ sw_rm) {T : sw_T} {K : sw_K} {p1 : Int} {res : Int} {Q : sp_R → sp_M → Prop} (h : w38 b T p1 = some res) (kk : Q (.inl (some (.int (Int32.ofInt res)))) (sw_M z n sw_Ft T K)) : sq_go G 27 0 [some (.ref (z + b)), some (.int (Int32.ofInt p1)), none, none, none, none] [] (sw_M z n sw_Ft T K) Q := by
  unfold w38 at h
  refine go_s qd27_0 rfl ?_
  refine go_l (L' := [some (.ref (z + b)), some (.int (Int32.ofInt p1)), some (.int (Int32.ofInt (-1))), none, none, none]) (st' := []) qd27_1 rfl ?_
  refine go_s qd27_2 rfl ?_
  refine go_l (L' := [some (.ref (z + b)), some (.int (Int32.ofInt p1)), some (.int (Int32.ofInt (-1))), some (.int (Int32.ofInt 0)), none, none]) (st' := []) qd27_3 rfl ?_
  refine go_s qd27_4 rfl ?_
  refine go_l (L' := [some (.ref (z + b)), some (.int (Int32.ofInt p1)), some (.int (Int32.ofInt (-1))), some (.int (Int32.ofInt 0)), some (.int (Int32.ofInt 0)), none]) (st' := []) qd27_5 rfl ?_
  obtain ⟨x17, e18, h⟩ := sw_bind h
  refine sq_weak (L := [some (.ref (z + b)), some (.int (Int32.ofInt p1)), some (.int (Int32.ofInt (-1))), some (.int (Int32.ofInt 0)), some (.int (Int32.ofInt 0)), none]) ⟨rfl, rfl, rfl, rfl, rfl, trivial⟩ (B27_7 hn hb (res := x17) ?_ _ _ _ _ e18)
  refine go_l qd27_70 rfl ?_
  rw [← sw_sj h] at kk
  exact ga_ri qd27_71 qr27 kk
theorem qk25_74 : sw_ck 25 74 14 0 1 3 2 = true := by decide +kernel
theorem qr25 : sq_ret 25 = none := by decide +kernel
theorem qc25 : sq_c 25 = 3 := by decide +kernel
-- 25: SewingPiles$Room.miss(I)V
def w36 (b : Nat) (T : sw_T) (p1 : Int) : Option (sw_T) :=
  (w25 b T p1).bind fun r2 =>
  (sw_r1 r2).bind fun _u =>
  if r2 = 0 then
    some (T)
  else
    (sw_ld T (b + 9) 7 p1).bind fun v6 =>
    (sw_st T (b + 9) 7 p1 (v6 + 1)).bind fun T8 =>
    (sw_ld T8 (b + 4) 7 p1).bind fun v10 =>
    (sw_st T8 (b + 4) 7 p1 (v10 + 1)).bind fun T12 =>
    (sw_ld T12 (b + 4) 7 p1).bind fun v14 =>
    (sw_ld T12 (b + 1) 3 2).bind fun v16 =>
    (sw_r2 v14 v16).bind fun _u =>
    if v14 < v16 then
      some (T12)
    else
      (sw_sb T12 (b + 5) 7 p1 1).bind fun T20 =>
      (sw_st T20 (b + 4) 7 p1 0).bind fun T22 =>
      some (T22)
theorem A25 {G : sp_G} {z n : Nat} (hn : 221 ≤ n) {b : Nat} (hb : b ∈ sw_rm) {T : sw_T} {K : sw_K} {p1 : Int} {res : sw_T} {Q : sp_R → sp_M → Prop} (h : w36 b T p1 = some res) (kk : Q (.inl none) (sw_M z n sw_Ft res K)) : sq_go G 25 0 [some (.ref (z + b)), some (.int (Int32.ofInt p1))] [] (sw_M z n sw_Ft T K) Q := by
  unfold w36 at h
  refine go_l qd25_0 rfl ?_
  refine go_l qd25_1 rfl ?_
  obtain ⟨r2, e1, h⟩ := sw_bind h
  refine ga_kv (a := b) (as := [.int (Int32.ofInt p1)]) (rest := []) qd25_2 qk25_74 (sw_rb hn hb) rfl rfl rfl (Nat.le_of_ble_eq_true rfl) (Nat.le_of_ble_eq_true rfl) rfl (A14 hn hb e1 (sw_bkv ?_))
  obtain ⟨_u, e3, h⟩ := sw_bind h
  by_cases hb4 : r2 = 0
  · replace h := sw_ifY hb4 h
    refine ga_zneY (t := 9) qd25_5 e3 hb4 rfl ?_
    rw [← sw_sj h] at kk
    exact ga_rv qd25_8 qr25 kk
  · replace h := sw_ifN hb4 h
    refine ga_zneN (t := 9) qd25_5 e3 hb4 rfl ?_
    refine go_l qd25_9 rfl ?_
    refine ga_gf (v := .ref (z + (b + 9))) qd25_10 qc25 qf3_41 (sw_rb hn hb) rfl rfl ?_
    refine go_l qd25_13 rfl ?_
    refine go_s qd25_14 rfl ?_
    obtain ⟨v6, e5, h⟩ := sw_bind h
    refine ga_iald qd25_15 (sw_rk hn hb 9 (by decide)) e5 ?_
    refine go_s qd25_16 rfl ?_
    refine ga_iadd qd25_17 ?_
    obtain ⟨T8, e7, h⟩ := sw_bind h
    refine ga_iast qd25_18 (sw_rk hn hb 9 (by decide)) e7 ?_
    refine go_l qd25_19 rfl ?_
    refine ga_gf (v := .ref (z + (b + 4))) qd25_20 qc25 qf3_25 (sw_rb hn hb) rfl rfl ?_
    refine go_l qd25_23 rfl ?_
    refine go_s qd25_24 rfl ?_
    obtain ⟨v10, e9, h⟩ := sw_bind h
    refine ga_iald qd25_25 (sw_rk hn hb 4 (by decide)) e9 ?_
    refine go_s qd25_26 rfl ?_
    refine ga_iadd qd25_27 ?_
    obtain ⟨T12, e11, h⟩ := sw_bind h
    refine ga_iast qd25_28 (sw_rk hn hb 4 (by decide)) e11 ?_
    refine go_l qd25_29 rfl ?_
    refine ga_gf (v := .ref (z + (b + 4))) qd25_30 qc25 qf3_25 (sw_rb hn hb) rfl rfl ?_
    refine go_l qd25_33 rfl ?_
    obtain ⟨v14, e13, h⟩ := sw_bind h
    refine ga_iald qd25_34 (sw_rk hn hb 4 (by decide)) e13 ?_
    refine go_l qd25_35 rfl ?_
    refine ga_gf (v := .ref (z + (b + 1))) qd25_36 qc25 qf3_15 (sw_rb hn hb) rfl rfl ?_
    refine go_s qd25_39 rfl ?_
    obtain ⟨v16, e15, h⟩ := sw_bind h
    refine ga_iald qd25_40 (sw_rk hn hb 1 (by decide)) e15 ?_
    obtain ⟨_u, e17, h⟩ := sw_bind h
    by_cases hb18 : v14 < v16
    · replace h := sw_ifY hb18 h
      refine ga_cltY (t := 58) qd25_41 e17 hb18 rfl ?_
      rw [← sw_sj h] at kk
      exact ga_rv qd25_58 qr25 kk
    · replace h := sw_ifN hb18 h
      refine ga_cltN (t := 58) qd25_41 e17 hb18 rfl ?_
      refine go_l qd25_44 rfl ?_
      refine ga_gf (v := .ref (z + (b + 5))) qd25_45 qc25 qf3_28 (sw_rb hn hb) rfl rfl ?_
      refine go_l qd25_48 rfl ?_
      refine go_s qd25_49 rfl ?_
      obtain ⟨T20, e19, h⟩ := sw_bind h
      refine ga_bast qd25_50 (sw_rk hn hb 5 (by decide)) e19 ?_
      refine go_l qd25_51 rfl ?_
      refine ga_gf (v := .ref (z + (b + 4))) qd25_52 qc25 qf3_25 (sw_rb hn hb) rfl rfl ?_
      refine go_l qd25_55 rfl ?_
      refine go_s qd25_56 rfl ?_
      obtain ⟨T22, e21, h⟩ := sw_bind h
      refine ga_iast qd25_57 (sw_rk hn hb 4 (by decide)) e21 ?_
      rw [← sw_sj h] at kk
      exact ga_rv qd25_58 qr25 kk
theorem qk23_74 : sw_ck 23 74 14 0 1 3 2 = true := by decide +kernel
theorem qr23 : sq_ret 23 = some .int := by decide +kernel
theorem qc23 : sq_c 23 = 3 := by decide +kernel
theorem qk23_78 : sw_ck 23 78 7 0 1 2 2 = true := by decide +kernel
theorem qk23_111 : sw_ck 23 111 10 0 1 2 3 = true := by decide +kernel
theorem qk23_120 : sw_ck 23 120 25 0 1 3 2 = true := by decide +kernel
theorem qk23_117 : sw_ck 23 117 11 0 1 2 4 = true := by decide +kernel
theorem qk23_114 : sw_ck 23 114 27 0 1 3 6 = true := by decide +kernel
theorem qk23_107 : sw_ck 23 107 24 0 1 3 4 = true := by decide +kernel
-- 23: SewingPiles$Room.act(IZ)I
def w34_81 (b : Nat) (T : sw_T) (l1 : Int) (s0 : Int) : Option (Int × sw_T) :=
  (sw_r2 s0 (-1)).bind fun _u =>
  if s0 = (-1) then
    (w36 b T l1).bind fun r24 =>
    some (((-1), r24))
  else
    (sw_ld T (b + 7) 7 l1).bind fun v26 =>
    (sw_st T (b + 7) 7 l1 (v26 + 1)).bind fun T28 =>
    (w22 b T28 s0).bind fun r30 =>
    some ((r30.1, r30.2))
theorem B23_81 {G : sp_G} {z n : Nat} (hn : 221 ≤ n) {b : Nat} (hb : b ∈ sw_rm) {T : sw_T} {K : sw_K} {l1 : Int} {s0 : Int} {res : Int × sw_T} {Q : sp_R → sp_M → Prop} (h : w34_81 b T l1 s0 = some res) (kk : Q (.inl (some (.int (Int32.ofInt res.1)))) (sw_M z n sw_Ft res.2 K)) : sq_go G 23 81 [some (.ref (z + b)), some (.int (Int32.ofInt l1)), none, none] [.int (Int32.ofInt s0)] (sw_M z n sw_Ft T K) Q := by
  unfold w34_81 at h
  refine go_l (L' := [some (.ref (z + b)), some (.int (Int32.ofInt l1)), none, some (.int (Int32.ofInt s0))]) (st' := []) qd23_81 rfl ?_
  refine go_l qd23_82 rfl ?_
  refine go_s qd23_83 rfl ?_
  obtain ⟨_u, e21, h⟩ := sw_bind h
  by_cases hb22 : s0 = (-1)
  · replace h := sw_ifY hb22 h
    refine ga_ceqY (t := 106) qd23_84 e21 hb22 rfl ?_
    refine go_l qd23_106 rfl ?_
    refine go_l qd23_107 rfl ?_
    obtain ⟨r24, e23, h⟩ := sw_bind h
    refine ga_kv (a := b) (as := [.int (Int32.ofInt l1)]) (rest := []) qd23_108 qk23_120 (sw_rb hn hb) rfl rfl rfl (Nat.le_of_ble_eq_true rfl) (Nat.le_of_ble_eq_true rfl) rfl (A25 hn hb e23 (sw_bk0 ?_))
    refine go_s qd23_111 rfl ?_
    rw [← sw_sj h] at kk
    exact ga_ri qd23_112 qr23 kk
  · replace h := sw_ifN hb22 h
    refine ga_ceqN (t := 106) qd23_84 e21 hb22 rfl ?_
    refine go_l qd23_87 rfl ?_
    refine ga_gf (v := .ref (z + (b + 7))) qd23_88 qc23 qf3_35 (sw_rb hn hb) rfl rfl ?_
    refine go_l qd23_91 rfl ?_
    refine go_s qd23_92 rfl ?_
    obtain ⟨v26, e25, h⟩ := sw_bind h
    refine ga_iald qd23_93 (sw_rk hn hb 7 (by decide)) e25 ?_
    refine go_s qd23_94 rfl ?_
    refine ga_iadd qd23_95 ?_
    obtain ⟨T28, e27, h⟩ := sw_bind h
    refine ga_iast qd23_96 (sw_rk hn hb 7 (by decide)) e27 ?_
    refine go_l qd23_97 rfl ?_
    refine ga_gf (v := .ref (z + (b + 10))) qd23_98 qc23 qf3_47 (sw_rb hn hb) rfl rfl ?_
    refine go_l qd23_101 rfl ?_
    obtain ⟨r30, e29, h⟩ := sw_bind h
    refine ga_kv (a := (b + 10)) (as := [.int (Int32.ofInt s0)]) (rest := []) qd23_102 qk23_117 (sw_rk hn hb 10 (by decide)) rfl rfl rfl (Nat.le_of_ble_eq_true rfl) (Nat.le_of_ble_eq_true rfl) rfl (A11 hn hb e29 (sw_bkv ?_))
    rw [← sw_sj h] at kk
    exact ga_ri qd23_105 qr23 kk
def w34 (b : Nat) (T : sw_T) (p1 : Int) (p2 : Int) : Option (Int × sw_T) :=
  (w25 b T p1).bind fun r2 =>
  (sw_r1 r2).bind fun _u =>
  if r2 = 0 then
    some (((-1), T))
  else
    (sw_ld T (b + 5) 7 p1).bind fun v6 =>
    (sw_r1 v6).bind fun _u =>
    if v6 = 0 then
      (sw_ld T (b + 3) 7 p1).bind fun v10 =>
      (sw_r2 v10 (-1)).bind fun _u =>
      if v10 = (-1) then
        (w18 b T p1).bind fun r14 =>
        (sw_r1 r14).bind fun _u =>
        if 0 < r14 then
          (w21 b T p1).bind fun r18 =>
          some ((r18.1, r18.2))
        else
          (sw_r1 p2).bind fun _u =>
          if p2 = 0 then
            w34_81 b T p1 (-1)
          else
            (w38 b T p1).bind fun r32 =>
            w34_81 b T p1 r32
      else
        (w35 b T p1).bind fun r34 =>
        some (((-1), r34))
    else
      (sw_ld T (b + 8) 7 p1).bind fun v36 =>
      (sw_st T (b + 8) 7 p1 (v36 + 1)).bind fun T38 =>
      some (((-1), T38))
theorem A23 {G : sp_G} {z n : Nat} (hn : 221 ≤ n) {b : Nat} (hb : b ∈ sw_rm) {T : sw_T} {K : sw_K} {p1 : Int} {p2 : Int} {res : Int × sw_T} {Q : sp_R → sp_M → Prop} (h : w34 b T p1 p2 = some res) (kk : Q (.inl (some (.int (Int32.ofInt res.1)))) (sw_M z n sw_Ft res.2 K)) : sq_go G 23 0 [some (.ref (z + b)), some (.int (Int32.ofInt p1)), some (.int (Int32.ofInt p2)), none] [] (sw_M z n sw_Ft T K) Q := by
  unfold w34 at h
  refine go_l qd23_0 rfl ?_
  refine go_l qd23_1 rfl ?_
  obtain ⟨r2, e1, h⟩ := sw_bind h
  refine ga_kv (a := b) (as := [.int (Int32.ofInt p1)]) (rest := []) qd23_2 qk23_74 (sw_rb hn hb) rfl rfl rfl (Nat.le_of_ble_eq_true rfl) (Nat.le_of_ble_eq_true rfl) rfl (A14 hn hb e1 (sw_bkv ?_))
  obtain ⟨_u, e3, h⟩ := sw_bind h
  by_cases hb4 : r2 = 0
  · replace h := sw_ifY hb4 h
    refine ga_zneY (t := 10) qd23_5 e3 hb4 rfl ?_
    refine go_s qd23_8 rfl ?_
    rw [← sw_sj h] at kk
    exact ga_ri qd23_9 qr23 kk
  · replace h := sw_ifN hb4 h
    refine ga_zneN (t := 10) qd23_5 e3 hb4 rfl ?_
    refine go_l qd23_10 rfl ?_
    refine ga_gf (v := .ref (z + (b + 5))) qd23_11 qc23 qf3_28 (sw_rb hn hb) rfl rfl ?_
    refine go_l qd23_14 rfl ?_
    obtain ⟨v6, e5, h⟩ := sw_bind h
    refine ga_bald qd23_15 (sw_rk hn hb 5 (by decide)) e5 ?_
    obtain ⟨_u, e7, h⟩ := sw_bind h
    by_cases hb8 : v6 = 0
    · replace h := sw_ifY hb8 h
      refine ga_zeqY (t := 31) qd23_16 e7 hb8 rfl ?_
      refine go_l qd23_31 rfl ?_
      refine ga_gf (v := .ref (z + (b + 3))) qd23_32 qc23 qf3_22 (sw_rb hn hb) rfl rfl ?_
      refine go_l qd23_35 rfl ?_
      obtain ⟨v10, e9, h⟩ := sw_bind h
      refine ga_iald qd23_36 (sw_rk hn hb 3 (by decide)) e9 ?_
      refine go_s qd23_37 rfl ?_
      obtain ⟨_u, e11, h⟩ := sw_bind h
      by_cases hb12 : v10 = (-1)
      · replace h := sw_ifY hb12 h
        refine ga_ceqY (t := 48) qd23_38 e11 hb12 rfl ?_
        refine go_l qd23_48 rfl ?_
        refine ga_gf (v := .ref (z + (b + 10))) qd23_49 qc23 qf3_47 (sw_rb hn hb) rfl rfl ?_
        refine go_l qd23_52 rfl ?_
        obtain ⟨r14, e13, h⟩ := sw_bind h
        refine ga_kv (a := (b + 10)) (as := [.int (Int32.ofInt p1)]) (rest := []) qd23_53 qk23_78 (sw_rk hn hb 10 (by decide)) rfl rfl rfl (Nat.le_of_ble_eq_true rfl) (Nat.le_of_ble_eq_true rfl) rfl (A7 hn hb e13 (sw_bkv ?_))
        obtain ⟨_u, e15, h⟩ := sw_bind h
        by_cases hb16 : 0 < r14
        · replace h := sw_ifY hb16 h
          refine ga_zleY (t := 68) qd23_56 e15 hb16 rfl ?_
          refine go_l qd23_59 rfl ?_
          refine ga_gf (v := .ref (z + (b + 10))) qd23_60 qc23 qf3_47 (sw_rb hn hb) rfl rfl ?_
          refine go_l qd23_63 rfl ?_
          obtain ⟨r18, e17, h⟩ := sw_bind h
          refine ga_kv (a := (b + 10)) (as := [.int (Int32.ofInt p1)]) (rest := []) qd23_64 qk23_111 (sw_rk hn hb 10 (by decide)) rfl rfl rfl (Nat.le_of_ble_eq_true rfl) (Nat.le_of_ble_eq_true rfl) rfl (A10 hn hb e17 (sw_bkv ?_))
          rw [← sw_sj h] at kk
          exact ga_ri qd23_67 qr23 kk
        · replace h := sw_ifN hb16 h
          refine ga_zleN (t := 68) qd23_56 e15 hb16 rfl ?_
          refine go_l qd23_68 rfl ?_
          obtain ⟨_u, e19, h⟩ := sw_bind h
          by_cases hb20 : p2 = 0
          · replace h := sw_ifY hb20 h
            refine ga_zeqY (t := 80) qd23_69 e19 hb20 rfl ?_
            refine go_s qd23_80 rfl ?_
            exact sq_weak (L := [some (.ref (z + b)), some (.int (Int32.ofInt p1)), none, none]) ⟨rfl, rfl, trivial⟩ (B23_81 hn hb h kk)
          · replace h := sw_ifN hb20 h
            refine ga_zeqN (t := 80) qd23_69 e19 hb20 rfl ?_
            refine go_l qd23_72 rfl ?_
            refine go_l qd23_73 rfl ?_
            obtain ⟨r32, e31, h⟩ := sw_bind h
            refine ga_kv (a := b) (as := [.int (Int32.ofInt p1)]) (rest := []) qd23_74 qk23_114 (sw_rb hn hb) rfl rfl rfl (Nat.le_of_ble_eq_true rfl) (Nat.le_of_ble_eq_true rfl) rfl (A27 hn hb e31 (sw_bkv ?_))
            refine ga_jp (t := 81) qd23_77 rfl ?_
            exact sq_weak (L := [some (.ref (z + b)), some (.int (Int32.ofInt p1)), none, none]) ⟨rfl, rfl, trivial⟩ (B23_81 hn hb h kk)
      · replace h := sw_ifN hb12 h
        refine ga_ceqN (t := 48) qd23_38 e11 hb12 rfl ?_
        refine go_l qd23_41 rfl ?_
        refine go_l qd23_42 rfl ?_
        obtain ⟨r34, e33, h⟩ := sw_bind h
        refine ga_kv (a := b) (as := [.int (Int32.ofInt p1)]) (rest := []) qd23_43 qk23_107 (sw_rb hn hb) rfl rfl rfl (Nat.le_of_ble_eq_true rfl) (Nat.le_of_ble_eq_true rfl) rfl (A24 hn hb e33 (sw_bk0 ?_))
        refine go_s qd23_46 rfl ?_
        rw [← sw_sj h] at kk
        exact ga_ri qd23_47 qr23 kk
    · replace h := sw_ifN hb8 h
      refine ga_zeqN (t := 31) qd23_16 e7 hb8 rfl ?_
      refine go_l qd23_19 rfl ?_
      refine ga_gf (v := .ref (z + (b + 8))) qd23_20 qc23 qf3_38 (sw_rb hn hb) rfl rfl ?_
      refine go_l qd23_23 rfl ?_
      refine go_s qd23_24 rfl ?_
      obtain ⟨v36, e35, h⟩ := sw_bind h
      refine ga_iald qd23_25 (sw_rk hn hb 8 (by decide)) e35 ?_
      refine go_s qd23_26 rfl ?_
      refine ga_iadd qd23_27 ?_
      obtain ⟨T38, e37, h⟩ := sw_bind h
      refine ga_iast qd23_28 (sw_rk hn hb 8 (by decide)) e37 ?_
      refine go_s qd23_29 rfl ?_
      rw [← sw_sj h] at kk
      exact ga_ri qd23_30 qr23 kk
theorem qk26_74 : sw_ck 26 74 14 0 1 3 2 = true := by decide +kernel
theorem qr26 : sq_ret 26 = none := by decide +kernel
theorem qc26 : sq_c 26 = 3 := by decide +kernel
theorem qk26_129 : sw_ck 26 129 43 0 3 4 4 = true := by decide +kernel
theorem qk26_123 : sw_ck 26 123 41 0 1 4 2 = true := by decide +kernel
theorem qk26_126 : sw_ck 26 126 42 0 2 4 3 = true := by decide +kernel
theorem qk26_133 : sw_ck 26 133 19 0 2 3 4 = true := by decide +kernel
-- 26: SewingPiles$Room.takeIntoHand(II)V
def w37 (b : Nat) (T : sw_T) (p1 : Int) (p2 : Int) : Option (sw_T) :=
  (w25 b T p1).bind fun r2 =>
  (sw_r1 r2).bind fun _u =>
  if r2 = 0 then
    some (T)
  else
    (sw_st T (b + 3) 7 p1 p2).bind fun T6 =>
    (sw_st T6 (b + 4) 7 p1 0).bind fun T8 =>
    (sw_pf T8 b 2 ((T8 b 2) + 1)).bind fun T9 =>
    (w55 b T9 p2 1 p1).bind fun r12 =>
    (w53 b r12 p2).bind fun r14 =>
    (sw_ld r12 (b + 1) 3 0).bind fun v16 =>
    (sw_r2 r14 v16).bind fun _u =>
    if v16 < r14 then
      (sw_r2 (r12 (b + 20) 0) 120).bind fun _u =>
      if (r12 (b + 20) 0) < 120 then
        (sw_dv r14 2).bind fun _u =>
        (w54 b r12 p2 (r14 - (r14 / 2))).bind fun r23 =>
        (sw_pf r23 b 3 ((r23 b 3) + 1)).bind fun T24 =>
        (w30 b T24 p1 (r14 / 2)).bind fun r27 =>
        some (r27.2)
      else
        some (r12)
    else
      some (r12)
theorem A26 {G : sp_G} {z n : Nat} (hn : 221 ≤ n) {b : Nat} (hb : b ∈ sw_rm) {T : sw_T} {K : sw_K} {p1 : Int} {p2 : Int} {res : sw_T} {Q : sp_R → sp_M → Prop} (h : w37 b T p1 p2 = some res) (kk : Q (.inl none) (sw_M z n sw_Ft res K)) : sq_go G 26 0 [some (.ref (z + b)), some (.int (Int32.ofInt p1)), some (.int (Int32.ofInt p2)), none, none] [] (sw_M z n sw_Ft T K) Q := by
  unfold w37 at h
  refine go_l qd26_0 rfl ?_
  refine go_l qd26_1 rfl ?_
  obtain ⟨r2, e1, h⟩ := sw_bind h
  refine ga_kv (a := b) (as := [.int (Int32.ofInt p1)]) (rest := []) qd26_2 qk26_74 (sw_rb hn hb) rfl rfl rfl (Nat.le_of_ble_eq_true rfl) (Nat.le_of_ble_eq_true rfl) rfl (A14 hn hb e1 (sw_bkv ?_))
  obtain ⟨_u, e3, h⟩ := sw_bind h
  by_cases hb4 : r2 = 0
  · replace h := sw_ifY hb4 h
    refine ga_zneY (t := 9) qd26_5 e3 hb4 rfl ?_
    rw [← sw_sj h] at kk
    exact ga_rv qd26_8 qr26 kk
  · replace h := sw_ifN hb4 h
    refine ga_zneN (t := 9) qd26_5 e3 hb4 rfl ?_
    refine go_l qd26_9 rfl ?_
    refine ga_gf (v := .ref (z + (b + 3))) qd26_10 qc26 qf3_22 (sw_rb hn hb) rfl rfl ?_
    refine go_l qd26_13 rfl ?_
    refine go_l qd26_14 rfl ?_
    obtain ⟨T6, e5, h⟩ := sw_bind h
    refine ga_iast qd26_15 (sw_rk hn hb 3 (by decide)) e5 ?_
    refine go_l qd26_16 rfl ?_
    refine ga_gf (v := .ref (z + (b + 4))) qd26_17 qc26 qf3_25 (sw_rb hn hb) rfl rfl ?_
    refine go_l qd26_20 rfl ?_
    refine go_s qd26_21 rfl ?_
    obtain ⟨T8, e7, h⟩ := sw_bind h
    refine ga_iast qd26_22 (sw_rk hn hb 4 (by decide)) e7 ?_
    refine go_l qd26_23 rfl ?_
    refine go_s qd26_24 rfl ?_
    refine ga_gf (v := .int (Int32.ofInt (T8 b 2))) qd26_25 qc26 qf3_61 (sw_rb hn hb) rfl rfl ?_
    refine go_s qd26_28 rfl ?_
    refine ga_iadd qd26_29 ?_
    obtain ⟨T9, e10, h⟩ := sw_bind h
    refine ga_pfi qd26_30 qc26 qg3_61 (sw_rb hn hb) rfl qi3_2 e10 ?_
    refine go_l qd26_33 rfl ?_
    refine ga_gf (v := .ref (z + (b + 20))) qd26_34 qc26 qf3_54 (sw_rb hn hb) rfl rfl ?_
    refine go_l qd26_37 rfl ?_
    refine go_s qd26_38 rfl ?_
    refine go_l qd26_39 rfl ?_
    obtain ⟨r12, e11, h⟩ := sw_bind h
    refine ga_kv (a := (b + 20)) (as := [.int (Int32.ofInt p2), .int (Int32.ofInt 1), .int (Int32.ofInt p1)]) (rest := []) qd26_40 qk26_129 (sw_rk hn hb 20 (by decide)) rfl rfl rfl (Nat.le_of_ble_eq_true rfl) (Nat.le_of_ble_eq_true rfl) rfl (A43 hn hb e11 (sw_bk0 ?_))
    refine go_l qd26_43 rfl ?_
    refine ga_gf (v := .ref (z + (b + 20))) qd26_44 qc26 qf3_54 (sw_rb hn hb) rfl rfl ?_
    refine go_l qd26_47 rfl ?_
    obtain ⟨r14, e13, h⟩ := sw_bind h
    refine ga_kv (a := (b + 20)) (as := [.int (Int32.ofInt p2)]) (rest := []) qd26_48 qk26_123 (sw_rk hn hb 20 (by decide)) rfl rfl rfl (Nat.le_of_ble_eq_true rfl) (Nat.le_of_ble_eq_true rfl) rfl (A41 hn hb e13 (sw_bkv ?_))
    refine go_l (L' := [some (.ref (z + b)), some (.int (Int32.ofInt p1)), some (.int (Int32.ofInt p2)), some (.int (Int32.ofInt r14)), none]) (st' := []) qd26_51 rfl ?_
    refine go_l qd26_52 rfl ?_
    refine go_l qd26_53 rfl ?_
    refine ga_gf (v := .ref (z + (b + 1))) qd26_54 qc26 qf3_15 (sw_rb hn hb) rfl rfl ?_
    refine go_s qd26_57 rfl ?_
    obtain ⟨v16, e15, h⟩ := sw_bind h
    refine ga_iald qd26_58 (sw_rk hn hb 1 (by decide)) e15 ?_
    obtain ⟨_u, e17, h⟩ := sw_bind h
    by_cases hb18 : v16 < r14
    · replace h := sw_ifY hb18 h
      refine ga_cleY (t := 109) qd26_59 e17 hb18 rfl ?_
      refine go_l qd26_62 rfl ?_
      refine ga_gf (v := .ref (z + (b + 20))) qd26_63 qc26 qf3_54 (sw_rb hn hb) rfl rfl ?_
      refine ga_gf (v := .int (Int32.ofInt (r12 (b + 20) 0))) qd26_66 qc26 qf3_82 (sw_rk hn hb 20 (by decide)) rfl rfl ?_
      refine ga_k8 qd26_69 rfl ?_
      obtain ⟨_u, e19, h⟩ := sw_bind h
      by_cases hb20 : (r12 (b + 20) 0) < 120
      · replace h := sw_ifY hb20 h
        refine ga_cgeY (t := 109) qd26_71 e19 hb20 rfl ?_
        refine go_l qd26_74 rfl ?_
        refine go_s qd26_75 rfl ?_
        obtain ⟨_u, e21, h⟩ := sw_bind h
        refine ga_idiv qd26_76 e21 ?_
        refine go_l (L' := [some (.ref (z + b)), some (.int (Int32.ofInt p1)), some (.int (Int32.ofInt p2)), some (.int (Int32.ofInt r14)), some (.int (Int32.ofInt (r14 / 2)))]) (st' := []) qd26_77 rfl ?_
        refine go_l qd26_79 rfl ?_
        refine ga_gf (v := .ref (z + (b + 20))) qd26_80 qc26 qf3_54 (sw_rb hn hb) rfl rfl ?_
        refine go_l qd26_83 rfl ?_
        refine go_l qd26_84 rfl ?_
        refine go_l qd26_85 rfl ?_
        refine ga_isub qd26_87 ?_
        obtain ⟨r23, e22, h⟩ := sw_bind h
        refine ga_kv (a := (b + 20)) (as := [.int (Int32.ofInt p2), .int (Int32.ofInt (r14 - (r14 / 2)))]) (rest := []) qd26_88 qk26_126 (sw_rk hn hb 20 (by decide)) rfl rfl rfl (Nat.le_of_ble_eq_true rfl) (Nat.le_of_ble_eq_true rfl) rfl (A42 hn hb e22 (sw_bk0 ?_))
        refine go_l qd26_91 rfl ?_
        refine go_s qd26_92 rfl ?_
        refine ga_gf (v := .int (Int32.ofInt (r23 b 3))) qd26_93 qc26 qf3_64 (sw_rb hn hb) rfl rfl ?_
        refine go_s qd26_96 rfl ?_
        refine ga_iadd qd26_97 ?_
        obtain ⟨T24, e25, h⟩ := sw_bind h
        refine ga_pfi qd26_98 qc26 qg3_64 (sw_rb hn hb) rfl qi3_3 e25 ?_
        refine go_l qd26_101 rfl ?_
        refine go_l qd26_102 rfl ?_
        refine go_l qd26_103 rfl ?_
        obtain ⟨r27, e26, h⟩ := sw_bind h
        refine ga_kv (a := b) (as := [.int (Int32.ofInt p1), .int (Int32.ofInt (r14 / 2))]) (rest := []) qd26_105 qk26_133 (sw_rb hn hb) rfl rfl rfl (Nat.le_of_ble_eq_true rfl) (Nat.le_of_ble_eq_true rfl) rfl (A19 hn hb e26 (sw_bkv ?_))
        refine go_s qd26_108 rfl ?_
        rw [← sw_sj h] at kk
        exact ga_rv qd26_109 qr26 kk
      · replace h := sw_ifN hb20 h
        refine ga_cgeN (t := 109) qd26_71 e19 hb20 rfl ?_
        rw [← sw_sj h] at kk
        exact ga_rv qd26_109 qr26 kk
    · replace h := sw_ifN hb18 h
      refine ga_cleN (t := 109) qd26_59 e17 hb18 rfl ?_
      rw [← sw_sj h] at kk
      exact ga_rv qd26_109 qr26 kk
theorem qc22 : sq_c 22 = 3 := by decide +kernel
theorem qk22_100 : sw_ck 22 100 23 0 2 3 4 = true := by decide +kernel
theorem qk22_104 : sw_ck 22 104 26 0 2 3 5 = true := by decide +kernel
theorem qr22 : sq_ret 22 = none := by decide +kernel
-- 22: SewingPiles$Room.passMinute(Z)V
def w33_2 (b : Nat) (l1 : Int) : Nat → sw_T → Int → Option (sw_T)
  | 0, _, _ => none
  | m + 1, T, l2 =>
    (sw_r2 l2 (T b 1)).bind fun _u =>
    if l2 < (T b 1) then
      (sw_r2 l2 7).bind fun _u =>
      if l2 < 7 then
        (w34 b T l2 l1).bind fun r6 =>
        (sw_r2 r6.1 (-1)).bind fun _u =>
        if r6.1 = (-1) then
          w33_2 b l1 m r6.2 (l2 + 1)
        else
          (w37 b r6.2 l2 r6.1).bind fun r10 =>
          w33_2 b l1 m r10 (l2 + 1)
      else
        some (T)
    else
      some (T)
theorem B22_2 {G : sp_G} {z n : Nat} (hn : 221 ≤ n) {b : Nat} (hb : b ∈ sw_rm) {l1 : Int} {K : sw_K} {res : sw_T} {Q : sp_R → sp_M → Prop} (kk : sq_go G 22 40 [some (.ref (z + b)), none, none, none] [] (sw_M z n sw_Ft res K) Q) : ∀ (m : Nat) (T : sw_T) (l2 : Int), w33_2 b l1 m T l2 = some res → sq_go G 22 2 [some (.ref (z + b)), some (.int (Int32.ofInt l1)), some (.int (Int32.ofInt l2)), none] [] (sw_M z n sw_Ft T K) Q := by
  intro m
  induction m with
  | zero => intro T l2 h; cases h
  | succ m ih =>
    intro T l2 h
    rw [w33_2] at h
    refine go_l qd22_2 rfl ?_
    refine go_l qd22_3 rfl ?_
    refine ga_gf (v := .int (Int32.ofInt (T b 1))) qd22_4 qc22 qf3_9 (sw_rb hn hb) rfl rfl ?_
    obtain ⟨_u, e1, h⟩ := sw_bind h
    by_cases hb2 : l2 < (T b 1)
    · replace h := sw_ifY hb2 h
      refine ga_cgeY (t := 40) qd22_7 e1 hb2 rfl ?_
      refine go_l qd22_10 rfl ?_
      refine ga_k8 qd22_11 rfl ?_
      obtain ⟨_u, e3, h⟩ := sw_bind h
      by_cases hb4 : l2 < 7
      · replace h := sw_ifY hb4 h
        refine ga_cgeY (t := 40) qd22_13 e3 hb4 rfl ?_
        refine go_l qd22_16 rfl ?_
        refine go_l qd22_17 rfl ?_
        refine go_l qd22_18 rfl ?_
        obtain ⟨r6, e5, h⟩ := sw_bind h
        refine ga_kv (a := b) (as := [.int (Int32.ofInt l2), .int (Int32.ofInt l1)]) (rest := []) qd22_19 qk22_100 (sw_rb hn hb) rfl rfl rfl (Nat.le_of_ble_eq_true rfl) (Nat.le_of_ble_eq_true rfl) rfl (A23 hn hb e5 (sw_bkv ?_))
        refine go_l (L' := [some (.ref (z + b)), some (.int (Int32.ofInt l1)), some (.int (Int32.ofInt l2)), some (.int (Int32.ofInt r6.1))]) (st' := []) qd22_22 rfl ?_
        refine go_l qd22_23 rfl ?_
        refine go_s qd22_24 rfl ?_
        obtain ⟨_u, e7, h⟩ := sw_bind h
        by_cases hb8 : r6.1 = (-1)
        · replace h := sw_ifY hb8 h
          refine ga_ceqY (t := 34) qd22_25 e7 hb8 rfl ?_
          refine ga_ii (L' := [some (.ref (z + b)), some (.int (Int32.ofInt l1)), some (.int (Int32.ofInt (l2 + 1))), some (.int (Int32.ofInt r6.1))]) qd22_34 rfl rfl ?_
          refine ga_jp (t := 2) qd22_37 rfl ?_
          exact sq_weak (L := [some (.ref (z + b)), some (.int (Int32.ofInt l1)), some (.int (Int32.ofInt (l2 + 1))), none]) ⟨rfl, rfl, rfl, trivial⟩ (ih _ _ h)
        · replace h := sw_ifN hb8 h
          refine ga_ceqN (t := 34) qd22_25 e7 hb8 rfl ?_
          refine go_l qd22_28 rfl ?_
          refine go_l qd22_29 rfl ?_
          refine go_l qd22_30 rfl ?_
          obtain ⟨r10, e9, h⟩ := sw_bind h
          refine ga_kv (a := b) (as := [.int (Int32.ofInt l2), .int (Int32.ofInt r6.1)]) (rest := []) qd22_31 qk22_104 (sw_rb hn hb) rfl rfl rfl (Nat.le_of_ble_eq_true rfl) (Nat.le_of_ble_eq_true rfl) rfl (A26 hn hb e9 (sw_bk0 ?_))
          refine ga_ii (L' := [some (.ref (z + b)), some (.int (Int32.ofInt l1)), some (.int (Int32.ofInt (l2 + 1))), some (.int (Int32.ofInt r6.1))]) qd22_34 rfl rfl ?_
          refine ga_jp (t := 2) qd22_37 rfl ?_
          exact sq_weak (L := [some (.ref (z + b)), some (.int (Int32.ofInt l1)), some (.int (Int32.ofInt (l2 + 1))), none]) ⟨rfl, rfl, rfl, trivial⟩ (ih _ _ h)
      · replace h := sw_ifN hb4 h
        refine ga_cgeN (t := 40) qd22_13 e3 hb4 rfl ?_
        rw [← sw_sj h] at kk
        exact sq_weak (L := [some (.ref (z + b)), none, none, none]) ⟨rfl, trivial⟩ kk
    · replace h := sw_ifN hb2 h
      refine ga_cgeN (t := 40) qd22_7 e1 hb2 rfl ?_
      rw [← sw_sj h] at kk
      exact sq_weak (L := [some (.ref (z + b)), none, none, none]) ⟨rfl, trivial⟩ kk
def w33 (b : Nat) (T : sw_T) (p1 : Int) : Option (sw_T) :=
  (w33_2 b p1 sw_N T 0).bind fun x11 =>
  (sw_pf x11 b 0 ((x11 b 0) + 1)).bind fun T13 =>
  some (T13)
theorem A22 {G : sp_G} {z n : Nat} (hn : 221 ≤ n) {b : Nat} (hb : b ∈ sw_rm) {T : sw_T} {K : sw_K} {p1 : Int} {res : sw_T} {Q : sp_R → sp_M → Prop} (h : w33 b T p1 = some res) (kk : Q (.inl none) (sw_M z n sw_Ft res K)) : sq_go G 22 0 [some (.ref (z + b)), some (.int (Int32.ofInt p1)), none, none] [] (sw_M z n sw_Ft T K) Q := by
  unfold w33 at h
  refine go_s qd22_0 rfl ?_
  refine go_l (L' := [some (.ref (z + b)), some (.int (Int32.ofInt p1)), some (.int (Int32.ofInt 0)), none]) (st' := []) qd22_1 rfl ?_
  obtain ⟨x11, e12, h⟩ := sw_bind h
  refine sq_weak (L := [some (.ref (z + b)), some (.int (Int32.ofInt p1)), some (.int (Int32.ofInt 0)), none]) ⟨rfl, rfl, rfl, trivial⟩ (B22_2 hn hb (res := x11) ?_ _ _ _ e12)
  refine go_l qd22_40 rfl ?_
  refine go_s qd22_41 rfl ?_
  refine ga_gf (v := .int (Int32.ofInt (x11 b 0))) qd22_42 qc22 qf3_58 (sw_rb hn hb) rfl rfl ?_
  refine go_s qd22_45 rfl ?_
  refine ga_iadd qd22_46 ?_
  obtain ⟨T13, e14, h⟩ := sw_bind h
  refine ga_pfi qd22_47 qc22 qg3_58 (sw_rb hn hb) rfl qi3_0 e14 ?_
  rw [← sw_sj h] at kk
  exact ga_rv qd22_50 qr22 kk
theorem qk21_96 : sw_ck 21 96 22 0 1 3 4 = true := by decide +kernel
theorem qr21 : sq_ret 21 = none := by decide +kernel
-- 21: SewingPiles$Room.passMinutes(I)V
def w32_2 (b : Nat) (l1 : Int) : Nat → sw_T → Int → Option (sw_T)
  | 0, _, _ => none
  | m + 1, T, l2 =>
    (sw_r2 l2 l1).bind fun _u =>
    if l2 < l1 then
      (w33 b T 1).bind fun r4 =>
      w32_2 b l1 m r4 (l2 + 1)
    else
      some (T)
theorem B21_2 {G : sp_G} {z n : Nat} (hn : 221 ≤ n) {b : Nat} (hb : b ∈ sw_rm) {l1 : Int} {K : sw_K} {res : sw_T} {Q : sp_R → sp_M → Prop} (kk : sq_go G 21 18 [none, none, none] [] (sw_M z n sw_Ft res K) Q) : ∀ (m : Nat) (T : sw_T) (l2 : Int), w32_2 b l1 m T l2 = some res → sq_go G 21 2 [some (.ref (z + b)), some (.int (Int32.ofInt l1)), some (.int (Int32.ofInt l2))] [] (sw_M z n sw_Ft T K) Q := by
  intro m
  induction m with
  | zero => intro T l2 h; cases h
  | succ m ih =>
    intro T l2 h
    rw [w32_2] at h
    refine go_l qd21_2 rfl ?_
    refine go_l qd21_3 rfl ?_
    obtain ⟨_u, e1, h⟩ := sw_bind h
    by_cases hb2 : l2 < l1
    · replace h := sw_ifY hb2 h
      refine ga_cgeY (t := 18) qd21_4 e1 hb2 rfl ?_
      refine go_l qd21_7 rfl ?_
      refine go_s qd21_8 rfl ?_
      obtain ⟨r4, e3, h⟩ := sw_bind h
      refine ga_kv (a := b) (as := [.int (Int32.ofInt 1)]) (rest := []) qd21_9 qk21_96 (sw_rb hn hb) rfl rfl rfl (Nat.le_of_ble_eq_true rfl) (Nat.le_of_ble_eq_true rfl) rfl (A22 hn hb e3 (sw_bk0 ?_))
      refine ga_ii (L' := [some (.ref (z + b)), some (.int (Int32.ofInt l1)), some (.int (Int32.ofInt (l2 + 1)))]) qd21_12 rfl rfl ?_
      refine ga_jp (t := 2) qd21_15 rfl ?_
      exact sq_weak (L := [some (.ref (z + b)), some (.int (Int32.ofInt l1)), some (.int (Int32.ofInt (l2 + 1)))]) ⟨rfl, rfl, rfl, trivial⟩ (ih _ _ h)
    · replace h := sw_ifN hb2 h
      refine ga_cgeN (t := 18) qd21_4 e1 hb2 rfl ?_
      rw [← sw_sj h] at kk
      exact sq_weak (L := [none, none, none]) trivial kk
def w32 (b : Nat) (T : sw_T) (p1 : Int) : Option (sw_T) :=
  (w32_2 b p1 sw_N T 0).bind fun x5 =>
  some (x5)
theorem A21 {G : sp_G} {z n : Nat} (hn : 221 ≤ n) {b : Nat} (hb : b ∈ sw_rm) {T : sw_T} {K : sw_K} {p1 : Int} {res : sw_T} {Q : sp_R → sp_M → Prop} (h : w32 b T p1 = some res) (kk : Q (.inl none) (sw_M z n sw_Ft res K)) : sq_go G 21 0 [some (.ref (z + b)), some (.int (Int32.ofInt p1)), none] [] (sw_M z n sw_Ft T K) Q := by
  unfold w32 at h
  refine go_s qd21_0 rfl ?_
  refine go_l (L' := [some (.ref (z + b)), some (.int (Int32.ofInt p1)), some (.int (Int32.ofInt 0))]) (st' := []) qd21_1 rfl ?_
  obtain ⟨x5, e6, h⟩ := sw_bind h
  refine sq_weak (L := [some (.ref (z + b)), some (.int (Int32.ofInt p1)), some (.int (Int32.ofInt 0))]) ⟨rfl, rfl, rfl, trivial⟩ (B21_2 hn hb (res := x5) ?_ _ _ _ e6)
  rw [← sw_sj h] at kk
  exact ga_rv qd21_18 qr21 kk
theorem qk32_74 : sw_ck 32 74 14 0 1 3 2 = true := by decide +kernel
theorem qr32 : sq_ret 32 = some .int := by decide +kernel
theorem qc32 : sq_c 32 = 3 := by decide +kernel
theorem qk32_123 : sw_ck 32 123 41 0 1 4 2 = true := by decide +kernel
theorem qk32_142 : sw_ck 32 142 8 0 2 2 3 = true := by decide +kernel
-- 32: SewingPiles$Room.load(I)I
def w44_26 (b : Nat) (T : sw_T) (l1 : Int) : Nat → Int → Int → Option (Int)
  | 0, _, _ => none
  | m + 1, l2, l3 =>
    (sw_r2 l3 16).bind fun _u =>
    if l3 < 16 then
      (w19 b T l1 l3).bind fun r12 =>
      (w53 b T r12).bind fun r14 =>
      w44_26 b T l1 m (l2 + r14) (l3 + 1)
    else
      some (l2)
theorem B32_26 {G : sp_G} {z n : Nat} (hn : 221 ≤ n) {b : Nat} (hb : b ∈ sw_rm) {T : sw_T} {l1 : Int} {K : sw_K} {res : Int} {Q : sp_R → sp_M → Prop} (kk : sq_go G 32 57 [none, none, some (.int (Int32.ofInt res)), none] [] (sw_M z n sw_Ft T K) Q) : ∀ (m : Nat) (l2 : Int) (l3 : Int), w44_26 b T l1 m l2 l3 = some res → sq_go G 32 26 [some (.ref (z + b)), some (.int (Int32.ofInt l1)), some (.int (Int32.ofInt l2)), some (.int (Int32.ofInt l3))] [] (sw_M z n sw_Ft T K) Q := by
  intro m
  induction m with
  | zero => intro l2 l3 h; cases h
  | succ m ih =>
    intro l2 l3 h
    rw [w44_26] at h
    refine go_l qd32_26 rfl ?_
    refine ga_k8 qd32_27 rfl ?_
    obtain ⟨_u, e9, h⟩ := sw_bind h
    by_cases hb10 : l3 < 16
    · replace h := sw_ifY hb10 h
      refine ga_cgeY (t := 57) qd32_29 e9 hb10 rfl ?_
      refine go_l qd32_32 rfl ?_
      refine go_l qd32_33 rfl ?_
      refine ga_gf (v := .ref (z + (b + 20))) qd32_34 qc32 qf3_54 (sw_rb hn hb) rfl rfl ?_
      refine go_l qd32_37 rfl ?_
      refine ga_gf (v := .ref (z + (b + 10))) qd32_38 qc32 qf3_47 (sw_rb hn hb) rfl rfl ?_
      refine go_l qd32_41 rfl ?_
      refine go_l qd32_42 rfl ?_
      obtain ⟨r12, e11, h⟩ := sw_bind h
      refine ga_kv (a := (b + 10)) (as := [.int (Int32.ofInt l1), .int (Int32.ofInt l3)]) (rest := [.ref (z + (b + 20)), .int (Int32.ofInt l2)]) qd32_43 qk32_142 (sw_rk hn hb 10 (by decide)) rfl rfl rfl (Nat.le_of_ble_eq_true rfl) (Nat.le_of_ble_eq_true rfl) rfl (A8 hn hb e11 (sw_bkv ?_))
      obtain ⟨r14, e13, h⟩ := sw_bind h
      refine ga_kv (a := (b + 20)) (as := [.int (Int32.ofInt r12)]) (rest := [.int (Int32.ofInt l2)]) qd32_46 qk32_123 (sw_rk hn hb 20 (by decide)) rfl rfl rfl (Nat.le_of_ble_eq_true rfl) (Nat.le_of_ble_eq_true rfl) rfl (A41 hn hb e13 (sw_bkv ?_))
      refine ga_iadd qd32_49 ?_
      refine go_l (L' := [some (.ref (z + b)), some (.int (Int32.ofInt l1)), some (.int (Int32.ofInt (l2 + r14))), some (.int (Int32.ofInt l3))]) (st' := []) qd32_50 rfl ?_
      refine ga_ii (L' := [some (.ref (z + b)), some (.int (Int32.ofInt l1)), some (.int (Int32.ofInt (l2 + r14))), some (.int (Int32.ofInt (l3 + 1)))]) qd32_51 rfl rfl ?_
      refine ga_jp (t := 26) qd32_54 rfl ?_
      exact sq_weak (L := [some (.ref (z + b)), some (.int (Int32.ofInt l1)), some (.int (Int32.ofInt (l2 + r14))), some (.int (Int32.ofInt (l3 + 1)))]) ⟨rfl, rfl, rfl, rfl, trivial⟩ (ih _ _ h)
    · replace h := sw_ifN hb10 h
      refine ga_cgeN (t := 57) qd32_29 e9 hb10 rfl ?_
      rw [← sw_sj h] at kk
      exact sq_weak (L := [none, none, some (.int (Int32.ofInt l2)), none]) ⟨rfl, trivial⟩ kk
def w44 (b : Nat) (T : sw_T) (p1 : Int) : Option (Int) :=
  (w25 b T p1).bind fun r2 =>
  (sw_r1 r2).bind fun _u =>
  if r2 = 0 then
    some (0)
  else
    (sw_ld T (b + 3) 7 p1).bind fun v6 =>
    (w53 b T v6).bind fun r8 =>
    (w44_26 b T p1 sw_N r8 0).bind fun x15 =>
    some (x15)
theorem A32 {G : sp_G} {z n : Nat} (hn : 221 ≤ n) {b : Nat} (hb : b ∈ sw_rm) {T : sw_T} {K : sw_K} {p1 : Int} {res : Int} {Q : sp_R → sp_M → Prop} (h : w44 b T p1 = some res) (kk : Q (.inl (some (.int (Int32.ofInt res)))) (sw_M z n sw_Ft T K)) : sq_go G 32 0 [some (.ref (z + b)), some (.int (Int32.ofInt p1)), none, none] [] (sw_M z n sw_Ft T K) Q := by
  unfold w44 at h
  refine go_l qd32_0 rfl ?_
  refine go_l qd32_1 rfl ?_
  obtain ⟨r2, e1, h⟩ := sw_bind h
  refine ga_kv (a := b) (as := [.int (Int32.ofInt p1)]) (rest := []) qd32_2 qk32_74 (sw_rb hn hb) rfl rfl rfl (Nat.le_of_ble_eq_true rfl) (Nat.le_of_ble_eq_true rfl) rfl (A14 hn hb e1 (sw_bkv ?_))
  obtain ⟨_u, e3, h⟩ := sw_bind h
  by_cases hb4 : r2 = 0
  · replace h := sw_ifY hb4 h
    refine ga_zneY (t := 10) qd32_5 e3 hb4 rfl ?_
    refine go_s qd32_8 rfl ?_
    rw [← sw_sj h] at kk
    exact ga_ri qd32_9 qr32 kk
  · replace h := sw_ifN hb4 h
    refine ga_zneN (t := 10) qd32_5 e3 hb4 rfl ?_
    refine go_l qd32_10 rfl ?_
    refine ga_gf (v := .ref (z + (b + 20))) qd32_11 qc32 qf3_54 (sw_rb hn hb) rfl rfl ?_
    refine go_l qd32_14 rfl ?_
    refine ga_gf (v := .ref (z + (b + 3))) qd32_15 qc32 qf3_22 (sw_rb hn hb) rfl rfl ?_
    refine go_l qd32_18 rfl ?_
    obtain ⟨v6, e5, h⟩ := sw_bind h
    refine ga_iald qd32_19 (sw_rk hn hb 3 (by decide)) e5 ?_
    obtain ⟨r8, e7, h⟩ := sw_bind h
    refine ga_kv (a := (b + 20)) (as := [.int (Int32.ofInt v6)]) (rest := []) qd32_20 qk32_123 (sw_rk hn hb 20 (by decide)) rfl rfl rfl (Nat.le_of_ble_eq_true rfl) (Nat.le_of_ble_eq_true rfl) rfl (A41 hn hb e7 (sw_bkv ?_))
    refine go_l (L' := [some (.ref (z + b)), some (.int (Int32.ofInt p1)), some (.int (Int32.ofInt r8)), none]) (st' := []) qd32_23 rfl ?_
    refine go_s qd32_24 rfl ?_
    refine go_l (L' := [some (.ref (z + b)), some (.int (Int32.ofInt p1)), some (.int (Int32.ofInt r8)), some (.int (Int32.ofInt 0))]) (st' := []) qd32_25 rfl ?_
    obtain ⟨x15, e16, h⟩ := sw_bind h
    refine sq_weak (L := [some (.ref (z + b)), some (.int (Int32.ofInt p1)), some (.int (Int32.ofInt r8)), some (.int (Int32.ofInt 0))]) ⟨rfl, rfl, rfl, rfl, trivial⟩ (B32_26 hn hb (res := x15) ?_ _ _ _ e16)
    refine go_l qd32_57 rfl ?_
    rw [← sw_sj h] at kk
    exact ga_ri qd32_58 qr32 kk
theorem qk30_74 : sw_ck 30 74 14 0 1 3 2 = true := by decide +kernel
theorem qr30 : sq_ret 30 = some .int := by decide +kernel
theorem qc30 : sq_c 30 = 3 := by decide +kernel
theorem qk30_78 : sw_ck 30 78 7 0 1 2 2 = true := by decide +kernel
theorem qk30_152 : sw_ck 30 152 32 0 1 3 4 = true := by decide +kernel
-- 30: SewingPiles$Room.seamstressNumber(II)I
def w42 (b : Nat) (T : sw_T) (p1 : Int) (p2 : Int) : Option (Int) :=
  (w25 b T p1).bind fun r2 =>
  (sw_r1 r2).bind fun _u =>
  if r2 = 0 then
    some ((-1))
  else
    (sw_r1 p2).bind fun _u =>
    if p2 = 0 then
      (sw_ld T (b + 2) 7 p1).bind fun v8 =>
      some (v8)
    else
    if p2 = 1 then
      (w18 b T p1).bind fun r11 =>
      some (r11)
    else
    if p2 = 2 then
      (sw_ld T (b + 3) 7 p1).bind fun v14 =>
      some (v14)
    else
    if p2 = 3 then
      (sw_ld T (b + 4) 7 p1).bind fun v17 =>
      some (v17)
    else
    if p2 = 4 then
      (sw_ld T (b + 5) 7 p1).bind fun v20 =>
      (sw_r1 v20).bind fun _u =>
      if v20 = 0 then
        some (0)
      else
        some (1)
    else
    if p2 = 5 then
      (sw_ld T (b + 6) 7 p1).bind fun v25 =>
      some (v25)
    else
    if p2 = 6 then
      (sw_ld T (b + 7) 7 p1).bind fun v28 =>
      some (v28)
    else
    if p2 = 7 then
      (sw_ld T (b + 8) 7 p1).bind fun v31 =>
      some (v31)
    else
    if p2 = 8 then
      (sw_ld T (b + 9) 7 p1).bind fun v34 =>
      some (v34)
    else
      (w44 b T p1).bind fun r36 =>
      some (r36)
theorem A30 {G : sp_G} {z n : Nat} (hn : 221 ≤ n) {b : Nat} (hb : b ∈ sw_rm) {T : sw_T} {K : sw_K} {p1 : Int} {p2 : Int} {res : Int} {Q : sp_R → sp_M → Prop} (h : w42 b T p1 p2 = some res) (kk : Q (.inl (some (.int (Int32.ofInt res)))) (sw_M z n sw_Ft T K)) : sq_go G 30 0 [some (.ref (z + b)), some (.int (Int32.ofInt p1)), some (.int (Int32.ofInt p2))] [] (sw_M z n sw_Ft T K) Q := by
  unfold w42 at h
  refine go_l qd30_0 rfl ?_
  refine go_l qd30_1 rfl ?_
  obtain ⟨r2, e1, h⟩ := sw_bind h
  refine ga_kv (a := b) (as := [.int (Int32.ofInt p1)]) (rest := []) qd30_2 qk30_74 (sw_rb hn hb) rfl rfl rfl (Nat.le_of_ble_eq_true rfl) (Nat.le_of_ble_eq_true rfl) rfl (A14 hn hb e1 (sw_bkv ?_))
  obtain ⟨_u, e3, h⟩ := sw_bind h
  by_cases hb4 : r2 = 0
  · replace h := sw_ifY hb4 h
    refine ga_zneY (t := 10) qd30_5 e3 hb4 rfl ?_
    refine go_s qd30_8 rfl ?_
    rw [← sw_sj h] at kk
    exact ga_ri qd30_9 qr30 kk
  · replace h := sw_ifN hb4 h
    refine ga_zneN (t := 10) qd30_5 e3 hb4 rfl ?_
    refine go_l qd30_10 rfl ?_
    obtain ⟨_u, e5, h⟩ := sw_bind h
    by_cases hb6 : p2 = 0
    · replace h := sw_ifY hb6 h
      refine ga_sw (t := 60) qd30_11 rfl hb6 rfl ?_
      refine go_l qd30_60 rfl ?_
      refine ga_gf (v := .ref (z + (b + 2))) qd30_61 qc30 qf3_19 (sw_rb hn hb) rfl rfl ?_
      refine go_l qd30_64 rfl ?_
      obtain ⟨v8, e7, h⟩ := sw_bind h
      refine ga_iald qd30_65 (sw_rk hn hb 2 (by decide)) e7 ?_
      rw [← sw_sj h] at kk
      exact ga_ri qd30_66 qr30 kk
    · replace h := sw_ifN hb6 h
      by_cases hb9 : p2 = 1
      · replace h := sw_ifY hb9 h
        refine ga_sw (t := 67) qd30_11 rfl hb9 rfl ?_
        refine go_l qd30_67 rfl ?_
        refine ga_gf (v := .ref (z + (b + 10))) qd30_68 qc30 qf3_47 (sw_rb hn hb) rfl rfl ?_
        refine go_l qd30_71 rfl ?_
        obtain ⟨r11, e10, h⟩ := sw_bind h
        refine ga_kv (a := (b + 10)) (as := [.int (Int32.ofInt p1)]) (rest := []) qd30_72 qk30_78 (sw_rk hn hb 10 (by decide)) rfl rfl rfl (Nat.le_of_ble_eq_true rfl) (Nat.le_of_ble_eq_true rfl) rfl (A7 hn hb e10 (sw_bkv ?_))
        rw [← sw_sj h] at kk
        exact ga_ri qd30_75 qr30 kk
      · replace h := sw_ifN hb9 h
        by_cases hb12 : p2 = 2
        · replace h := sw_ifY hb12 h
          refine ga_sw (t := 76) qd30_11 rfl hb12 rfl ?_
          refine go_l qd30_76 rfl ?_
          refine ga_gf (v := .ref (z + (b + 3))) qd30_77 qc30 qf3_22 (sw_rb hn hb) rfl rfl ?_
          refine go_l qd30_80 rfl ?_
          obtain ⟨v14, e13, h⟩ := sw_bind h
          refine ga_iald qd30_81 (sw_rk hn hb 3 (by decide)) e13 ?_
          rw [← sw_sj h] at kk
          exact ga_ri qd30_82 qr30 kk
        · replace h := sw_ifN hb12 h
          by_cases hb15 : p2 = 3
          · replace h := sw_ifY hb15 h
            refine ga_sw (t := 83) qd30_11 rfl hb15 rfl ?_
            refine go_l qd30_83 rfl ?_
            refine ga_gf (v := .ref (z + (b + 4))) qd30_84 qc30 qf3_25 (sw_rb hn hb) rfl rfl ?_
            refine go_l qd30_87 rfl ?_
            obtain ⟨v17, e16, h⟩ := sw_bind h
            refine ga_iald qd30_88 (sw_rk hn hb 4 (by decide)) e16 ?_
            rw [← sw_sj h] at kk
            exact ga_ri qd30_89 qr30 kk
          · replace h := sw_ifN hb15 h
            by_cases hb18 : p2 = 4
            · replace h := sw_ifY hb18 h
              refine ga_sw (t := 90) qd30_11 rfl hb18 rfl ?_
              refine go_l qd30_90 rfl ?_
              refine ga_gf (v := .ref (z + (b + 5))) qd30_91 qc30 qf3_28 (sw_rb hn hb) rfl rfl ?_
              refine go_l qd30_94 rfl ?_
              obtain ⟨v20, e19, h⟩ := sw_bind h
              refine ga_bald qd30_95 (sw_rk hn hb 5 (by decide)) e19 ?_
              obtain ⟨_u, e21, h⟩ := sw_bind h
              by_cases hb22 : v20 = 0
              · replace h := sw_ifY hb22 h
                refine ga_zeqY (t := 103) qd30_96 e21 hb22 rfl ?_
                refine go_s qd30_103 rfl ?_
                rw [← sw_sj h] at kk
                exact ga_ri qd30_104 qr30 kk
              · replace h := sw_ifN hb22 h
                refine ga_zeqN (t := 103) qd30_96 e21 hb22 rfl ?_
                refine go_s qd30_99 rfl ?_
                refine ga_jp (t := 104) qd30_100 rfl ?_
                rw [← sw_sj h] at kk
                exact ga_ri qd30_104 qr30 kk
            · replace h := sw_ifN hb18 h
              by_cases hb23 : p2 = 5
              · replace h := sw_ifY hb23 h
                refine ga_sw (t := 105) qd30_11 rfl hb23 rfl ?_
                refine go_l qd30_105 rfl ?_
                refine ga_gf (v := .ref (z + (b + 6))) qd30_106 qc30 qf3_32 (sw_rb hn hb) rfl rfl ?_
                refine go_l qd30_109 rfl ?_
                obtain ⟨v25, e24, h⟩ := sw_bind h
                refine ga_iald qd30_110 (sw_rk hn hb 6 (by decide)) e24 ?_
                rw [← sw_sj h] at kk
                exact ga_ri qd30_111 qr30 kk
              · replace h := sw_ifN hb23 h
                by_cases hb26 : p2 = 6
                · replace h := sw_ifY hb26 h
                  refine ga_sw (t := 112) qd30_11 rfl hb26 rfl ?_
                  refine go_l qd30_112 rfl ?_
                  refine ga_gf (v := .ref (z + (b + 7))) qd30_113 qc30 qf3_35 (sw_rb hn hb) rfl rfl ?_
                  refine go_l qd30_116 rfl ?_
                  obtain ⟨v28, e27, h⟩ := sw_bind h
                  refine ga_iald qd30_117 (sw_rk hn hb 7 (by decide)) e27 ?_
                  rw [← sw_sj h] at kk
                  exact ga_ri qd30_118 qr30 kk
                · replace h := sw_ifN hb26 h
                  by_cases hb29 : p2 = 7
                  · replace h := sw_ifY hb29 h
                    refine ga_sw (t := 119) qd30_11 rfl hb29 rfl ?_
                    refine go_l qd30_119 rfl ?_
                    refine ga_gf (v := .ref (z + (b + 8))) qd30_120 qc30 qf3_38 (sw_rb hn hb) rfl rfl ?_
                    refine go_l qd30_123 rfl ?_
                    obtain ⟨v31, e30, h⟩ := sw_bind h
                    refine ga_iald qd30_124 (sw_rk hn hb 8 (by decide)) e30 ?_
                    rw [← sw_sj h] at kk
                    exact ga_ri qd30_125 qr30 kk
                  · replace h := sw_ifN hb29 h
                    by_cases hb32 : p2 = 8
                    · replace h := sw_ifY hb32 h
                      refine ga_sw (t := 126) qd30_11 rfl hb32 rfl ?_
                      refine go_l qd30_126 rfl ?_
                      refine ga_gf (v := .ref (z + (b + 9))) qd30_127 qc30 qf3_41 (sw_rb hn hb) rfl rfl ?_
                      refine go_l qd30_130 rfl ?_
                      obtain ⟨v34, e33, h⟩ := sw_bind h
                      refine ga_iald qd30_131 (sw_rk hn hb 9 (by decide)) e33 ?_
                      rw [← sw_sj h] at kk
                      exact ga_ri qd30_132 qr30 kk
                    · replace h := sw_ifN hb32 h
                      refine ga_tsd (t := 133) qd30_11 e5 (by omega) rfl ?_
                      refine go_l qd30_133 rfl ?_
                      refine go_l qd30_134 rfl ?_
                      obtain ⟨r36, e35, h⟩ := sw_bind h
                      refine ga_kv (a := b) (as := [.int (Int32.ofInt p1)]) (rest := []) qd30_135 qk30_152 (sw_rb hn hb) rfl rfl rfl (Nat.le_of_ble_eq_true rfl) (Nat.le_of_ble_eq_true rfl) rfl (A32 hn hb e35 (sw_bkv ?_))
                      rw [← sw_sj h] at kk
                      exact ga_ri qd30_138 qr30 kk
theorem qc36 : sq_c 36 = 3 := by decide +kernel
theorem qr36 : sq_ret 36 = some .int := by decide +kernel
-- 36: SewingPiles$Room.total([I)I
def w48_8 (b : Nat) (r : Nat) (T : sw_T) : Nat → Int → Int → Option (Int)
  | 0, _, _ => none
  | m + 1, l2, l3 =>
    (sw_r2 l3 (T b 1)).bind fun _u =>
    if l3 < (T b 1) then
      (sw_r2 l3 ((7 : Nat) : Int)).bind fun _u =>
      if l3 < ((7 : Nat) : Int) then
        (sw_ld T r 7 l3).bind fun v6 =>
        w48_8 b r T m (l2 + v6) (l3 + 1)
      else
        some (l2)
    else
      some (l2)
theorem B36_8 {G : sp_G} {z n : Nat} (hn : 221 ≤ n) {b : Nat} (hb : b ∈ sw_rm) {r : Nat} (hr : sw_s n r = some (0, 7)) {T : sw_T} {K : sw_K} {res : Int} {Q : sp_R → sp_M → Prop} (kk : sq_go G 36 34 [none, none, some (.int (Int32.ofInt res)), none] [] (sw_M z n sw_Ft T K) Q) : ∀ (m : Nat) (l2 : Int) (l3 : Int), w48_8 b r T m l2 l3 = some res → sq_go G 36 8 [some (.ref (z + b)), some (.ref (z + r)), some (.int (Int32.ofInt l2)), some (.int (Int32.ofInt l3))] [] (sw_M z n sw_Ft T K) Q := by
  intro m
  induction m with
  | zero => intro l2 l3 h; cases h
  | succ m ih =>
    intro l2 l3 h
    rw [w48_8] at h
    refine go_l qd36_8 rfl ?_
    refine go_l qd36_9 rfl ?_
    refine ga_gf (v := .int (Int32.ofInt (T b 1))) qd36_10 qc36 qf3_9 (sw_rb hn hb) rfl rfl ?_
    obtain ⟨_u, e1, h⟩ := sw_bind h
    by_cases hb2 : l3 < (T b 1)
    · replace h := sw_ifY hb2 h
      refine ga_cgeY (t := 34) qd36_13 e1 hb2 rfl ?_
      refine go_l qd36_16 rfl ?_
      refine go_l qd36_17 rfl ?_
      refine ga_al qd36_18 hr ?_
      obtain ⟨_u, e3, h⟩ := sw_bind h
      by_cases hb4 : l3 < ((7 : Nat) : Int)
      · replace h := sw_ifY hb4 h
        refine ga_cgeY (t := 34) qd36_19 e3 hb4 rfl ?_
        refine go_l qd36_22 rfl ?_
        refine go_l qd36_23 rfl ?_
        refine go_l qd36_24 rfl ?_
        obtain ⟨v6, e5, h⟩ := sw_bind h
        refine ga_iald qd36_25 hr e5 ?_
        refine ga_iadd qd36_26 ?_
        refine go_l (L' := [some (.ref (z + b)), some (.ref (z + r)), some (.int (Int32.ofInt (l2 + v6))), some (.int (Int32.ofInt l3))]) (st' := []) qd36_27 rfl ?_
        refine ga_ii (L' := [some (.ref (z + b)), some (.ref (z + r)), some (.int (Int32.ofInt (l2 + v6))), some (.int (Int32.ofInt (l3 + 1)))]) qd36_28 rfl rfl ?_
        refine ga_jp (t := 8) qd36_31 rfl ?_
        exact sq_weak (L := [some (.ref (z + b)), some (.ref (z + r)), some (.int (Int32.ofInt (l2 + v6))), some (.int (Int32.ofInt (l3 + 1)))]) ⟨rfl, rfl, rfl, rfl, trivial⟩ (ih _ _ h)
      · replace h := sw_ifN hb4 h
        refine ga_cgeN (t := 34) qd36_19 e3 hb4 rfl ?_
        rw [← sw_sj h] at kk
        exact sq_weak (L := [none, none, some (.int (Int32.ofInt l2)), none]) ⟨rfl, trivial⟩ kk
    · replace h := sw_ifN hb2 h
      refine ga_cgeN (t := 34) qd36_13 e1 hb2 rfl ?_
      rw [← sw_sj h] at kk
      exact sq_weak (L := [none, none, some (.int (Int32.ofInt l2)), none]) ⟨rfl, trivial⟩ kk
def w48 (b : Nat) (r : Nat) (T : sw_T) : Option (Int) :=
  (w48_8 b r T sw_N 0 0).bind fun x7 =>
  some (x7)
theorem A36 {G : sp_G} {z n : Nat} (hn : 221 ≤ n) {b : Nat} (hb : b ∈ sw_rm) {r : Nat} (hr : sw_s n r = some (0, 7)) {T : sw_T} {K : sw_K} {res : Int} {Q : sp_R → sp_M → Prop} (h : w48 b r T = some res) (kk : Q (.inl (some (.int (Int32.ofInt res)))) (sw_M z n sw_Ft T K)) : sq_go G 36 0 [some (.ref (z + b)), some (.ref (z + r)), none, none] [] (sw_M z n sw_Ft T K) Q := by
  unfold w48 at h
  refine go_s qd36_0 rfl ?_
  refine go_l (L' := [some (.ref (z + b)), some (.ref (z + r)), some (.int (Int32.ofInt 0)), none]) (st' := []) qd36_1 rfl ?_
  refine go_l qd36_2 rfl ?_
  refine go_j qd36_3 rfl ?_
  refine go_s qd36_6 rfl ?_
  refine go_l (L' := [some (.ref (z + b)), some (.ref (z + r)), some (.int (Int32.ofInt 0)), some (.int (Int32.ofInt 0))]) (st' := []) qd36_7 rfl ?_
  obtain ⟨x7, e8, h⟩ := sw_bind h
  refine sq_weak (L := [some (.ref (z + b)), some (.ref (z + r)), some (.int (Int32.ofInt 0)), some (.int (Int32.ofInt 0))]) ⟨rfl, rfl, rfl, rfl, trivial⟩ (B36_8 hn hb hr (res := x7) ?_ _ _ _ e8)
  refine go_l qd36_34 rfl ?_
  rw [← sw_sj h] at kk
  exact ga_ri qd36_35 qr36 kk
theorem qc33 : sq_c 33 = 3 := by decide +kernel
theorem qk33_158 : sw_ck 33 158 36 0 1 3 4 = true := by decide +kernel
theorem qr33 : sq_ret 33 = some .int := by decide +kernel
-- 33: SewingPiles$Room.sewnShirts()I
def w45 (b : Nat) (T : sw_T) : Option (Int) :=
  (w48 b (b + 6) T).bind fun r2 =>
  some (r2)
theorem A33 {G : sp_G} {z n : Nat} (hn : 221 ≤ n) {b : Nat} (hb : b ∈ sw_rm) {T : sw_T} {K : sw_K} {res : Int} {Q : sp_R → sp_M → Prop} (h : w45 b T = some res) (kk : Q (.inl (some (.int (Int32.ofInt res)))) (sw_M z n sw_Ft T K)) : sq_go G 33 0 [some (.ref (z + b))] [] (sw_M z n sw_Ft T K) Q := by
  unfold w45 at h
  refine go_l qd33_0 rfl ?_
  refine go_l qd33_1 rfl ?_
  refine ga_gf (v := .ref (z + (b + 6))) qd33_2 qc33 qf3_32 (sw_rb hn hb) rfl rfl ?_
  obtain ⟨r2, e1, h⟩ := sw_bind h
  refine ga_kv (a := b) (as := [.ref (z + (b + 6))]) (rest := []) qd33_5 qk33_158 (sw_rb hn hb) rfl rfl rfl (Nat.le_of_ble_eq_true rfl) (Nat.le_of_ble_eq_true rfl) rfl (A36 hn hb (sw_rk hn hb 6 (by decide)) e1 (sw_bkv ?_))
  rw [← sw_sj h] at kk
  exact ga_ri qd33_8 qr33 kk
theorem qc34 : sq_c 34 = 3 := by decide +kernel
theorem qr34 : sq_ret 34 = some .int := by decide +kernel
-- 34: SewingPiles$Room.fullHands()I
def w46_4 (b : Nat) (T : sw_T) : Nat → Int → Int → Option (Int)
  | 0, _, _ => none
  | m + 1, l1, l2 =>
    (sw_r2 l2 (T b 1)).bind fun _u =>
    if l2 < (T b 1) then
      (sw_r2 l2 7).bind fun _u =>
      if l2 < 7 then
        (sw_ld T (b + 3) 7 l2).bind fun v6 =>
        (sw_r2 v6 (-1)).bind fun _u =>
        if v6 = (-1) then
          w46_4 b T m l1 (l2 + 1)
        else
          w46_4 b T m (l1 + 1) (l2 + 1)
      else
        some (l1)
    else
      some (l1)
theorem B34_4 {G : sp_G} {z n : Nat} (hn : 221 ≤ n) {b : Nat} (hb : b ∈ sw_rm) {T : sw_T} {K : sw_K} {res : Int} {Q : sp_R → sp_M → Prop} (kk : sq_go G 34 37 [none, some (.int (Int32.ofInt res)), none] [] (sw_M z n sw_Ft T K) Q) : ∀ (m : Nat) (l1 : Int) (l2 : Int), w46_4 b T m l1 l2 = some res → sq_go G 34 4 [some (.ref (z + b)), some (.int (Int32.ofInt l1)), some (.int (Int32.ofInt l2))] [] (sw_M z n sw_Ft T K) Q := by
  intro m
  induction m with
  | zero => intro l1 l2 h; cases h
  | succ m ih =>
    intro l1 l2 h
    rw [w46_4] at h
    refine go_l qd34_4 rfl ?_
    refine go_l qd34_5 rfl ?_
    refine ga_gf (v := .int (Int32.ofInt (T b 1))) qd34_6 qc34 qf3_9 (sw_rb hn hb) rfl rfl ?_
    obtain ⟨_u, e1, h⟩ := sw_bind h
    by_cases hb2 : l2 < (T b 1)
    · replace h := sw_ifY hb2 h
      refine ga_cgeY (t := 37) qd34_9 e1 hb2 rfl ?_
      refine go_l qd34_12 rfl ?_
      refine ga_k8 qd34_13 rfl ?_
      obtain ⟨_u, e3, h⟩ := sw_bind h
      by_cases hb4 : l2 < 7
      · replace h := sw_ifY hb4 h
        refine ga_cgeY (t := 37) qd34_15 e3 hb4 rfl ?_
        refine go_l qd34_18 rfl ?_
        refine ga_gf (v := .ref (z + (b + 3))) qd34_19 qc34 qf3_22 (sw_rb hn hb) rfl rfl ?_
        refine go_l qd34_22 rfl ?_
        obtain ⟨v6, e5, h⟩ := sw_bind h
        refine ga_iald qd34_23 (sw_rk hn hb 3 (by decide)) e5 ?_
        refine go_s qd34_24 rfl ?_
        obtain ⟨_u, e7, h⟩ := sw_bind h
        by_cases hb8 : v6 = (-1)
        · replace h := sw_ifY hb8 h
          refine ga_ceqY (t := 31) qd34_25 e7 hb8 rfl ?_
          refine ga_ii (L' := [some (.ref (z + b)), some (.int (Int32.ofInt l1)), some (.int (Int32.ofInt (l2 + 1)))]) qd34_31 rfl rfl ?_
          refine ga_jp (t := 4) qd34_34 rfl ?_
          exact sq_weak (L := [some (.ref (z + b)), some (.int (Int32.ofInt l1)), some (.int (Int32.ofInt (l2 + 1)))]) ⟨rfl, rfl, rfl, trivial⟩ (ih _ _ h)
        · replace h := sw_ifN hb8 h
          refine ga_ceqN (t := 31) qd34_25 e7 hb8 rfl ?_
          refine ga_ii (L' := [some (.ref (z + b)), some (.int (Int32.ofInt (l1 + 1))), some (.int (Int32.ofInt l2))]) qd34_28 rfl rfl ?_
          refine ga_ii (L' := [some (.ref (z + b)), some (.int (Int32.ofInt (l1 + 1))), some (.int (Int32.ofInt (l2 + 1)))]) qd34_31 rfl rfl ?_
          refine ga_jp (t := 4) qd34_34 rfl ?_
          exact sq_weak (L := [some (.ref (z + b)), some (.int (Int32.ofInt (l1 + 1))), some (.int (Int32.ofInt (l2 + 1)))]) ⟨rfl, rfl, rfl, trivial⟩ (ih _ _ h)
      · replace h := sw_ifN hb4 h
        refine ga_cgeN (t := 37) qd34_15 e3 hb4 rfl ?_
        rw [← sw_sj h] at kk
        exact sq_weak (L := [none, some (.int (Int32.ofInt l1)), none]) ⟨rfl, trivial⟩ kk
    · replace h := sw_ifN hb2 h
      refine ga_cgeN (t := 37) qd34_9 e1 hb2 rfl ?_
      rw [← sw_sj h] at kk
      exact sq_weak (L := [none, some (.int (Int32.ofInt l1)), none]) ⟨rfl, trivial⟩ kk
def w46 (b : Nat) (T : sw_T) : Option (Int) :=
  (w46_4 b T sw_N 0 0).bind fun x9 =>
  some (x9)
theorem A34 {G : sp_G} {z n : Nat} (hn : 221 ≤ n) {b : Nat} (hb : b ∈ sw_rm) {T : sw_T} {K : sw_K} {res : Int} {Q : sp_R → sp_M → Prop} (h : w46 b T = some res) (kk : Q (.inl (some (.int (Int32.ofInt res)))) (sw_M z n sw_Ft T K)) : sq_go G 34 0 [some (.ref (z + b)), none, none] [] (sw_M z n sw_Ft T K) Q := by
  unfold w46 at h
  refine go_s qd34_0 rfl ?_
  refine go_l (L' := [some (.ref (z + b)), some (.int (Int32.ofInt 0)), none]) (st' := []) qd34_1 rfl ?_
  refine go_s qd34_2 rfl ?_
  refine go_l (L' := [some (.ref (z + b)), some (.int (Int32.ofInt 0)), some (.int (Int32.ofInt 0))]) (st' := []) qd34_3 rfl ?_
  obtain ⟨x9, e10, h⟩ := sw_bind h
  refine sq_weak (L := [some (.ref (z + b)), some (.int (Int32.ofInt 0)), some (.int (Int32.ofInt 0))]) ⟨rfl, rfl, rfl, trivial⟩ (B34_4 hn hb (res := x9) ?_ _ _ _ e10)
  refine go_l qd34_37 rfl ?_
  rw [← sw_sj h] at kk
  exact ga_ri qd34_38 qr34 kk
theorem qc35 : sq_c 35 = 3 := by decide +kernel
theorem qr35 : sq_ret 35 = some .int := by decide +kernel
-- 35: SewingPiles$Room.sleepers()I
def w47_4 (b : Nat) (T : sw_T) : Nat → Int → Int → Option (Int)
  | 0, _, _ => none
  | m + 1, l1, l2 =>
    (sw_r2 l2 (T b 1)).bind fun _u =>
    if l2 < (T b 1) then
      (sw_r2 l2 7).bind fun _u =>
      if l2 < 7 then
        (sw_ld T (b + 5) 7 l2).bind fun v6 =>
        (sw_r1 v6).bind fun _u =>
        if v6 = 0 then
          w47_4 b T m l1 (l2 + 1)
        else
          w47_4 b T m (l1 + 1) (l2 + 1)
      else
        some (l1)
    else
      some (l1)
theorem B35_4 {G : sp_G} {z n : Nat} (hn : 221 ≤ n) {b : Nat} (hb : b ∈ sw_rm) {T : sw_T} {K : sw_K} {res : Int} {Q : sp_R → sp_M → Prop} (kk : sq_go G 35 36 [none, some (.int (Int32.ofInt res)), none] [] (sw_M z n sw_Ft T K) Q) : ∀ (m : Nat) (l1 : Int) (l2 : Int), w47_4 b T m l1 l2 = some res → sq_go G 35 4 [some (.ref (z + b)), some (.int (Int32.ofInt l1)), some (.int (Int32.ofInt l2))] [] (sw_M z n sw_Ft T K) Q := by
  intro m
  induction m with
  | zero => intro l1 l2 h; cases h
  | succ m ih =>
    intro l1 l2 h
    rw [w47_4] at h
    refine go_l qd35_4 rfl ?_
    refine go_l qd35_5 rfl ?_
    refine ga_gf (v := .int (Int32.ofInt (T b 1))) qd35_6 qc35 qf3_9 (sw_rb hn hb) rfl rfl ?_
    obtain ⟨_u, e1, h⟩ := sw_bind h
    by_cases hb2 : l2 < (T b 1)
    · replace h := sw_ifY hb2 h
      refine ga_cgeY (t := 36) qd35_9 e1 hb2 rfl ?_
      refine go_l qd35_12 rfl ?_
      refine ga_k8 qd35_13 rfl ?_
      obtain ⟨_u, e3, h⟩ := sw_bind h
      by_cases hb4 : l2 < 7
      · replace h := sw_ifY hb4 h
        refine ga_cgeY (t := 36) qd35_15 e3 hb4 rfl ?_
        refine go_l qd35_18 rfl ?_
        refine ga_gf (v := .ref (z + (b + 5))) qd35_19 qc35 qf3_28 (sw_rb hn hb) rfl rfl ?_
        refine go_l qd35_22 rfl ?_
        obtain ⟨v6, e5, h⟩ := sw_bind h
        refine ga_bald qd35_23 (sw_rk hn hb 5 (by decide)) e5 ?_
        obtain ⟨_u, e7, h⟩ := sw_bind h
        by_cases hb8 : v6 = 0
        · replace h := sw_ifY hb8 h
          refine ga_zeqY (t := 30) qd35_24 e7 hb8 rfl ?_
          refine ga_ii (L' := [some (.ref (z + b)), some (.int (Int32.ofInt l1)), some (.int (Int32.ofInt (l2 + 1)))]) qd35_30 rfl rfl ?_
          refine ga_jp (t := 4) qd35_33 rfl ?_
          exact sq_weak (L := [some (.ref (z + b)), some (.int (Int32.ofInt l1)), some (.int (Int32.ofInt (l2 + 1)))]) ⟨rfl, rfl, rfl, trivial⟩ (ih _ _ h)
        · replace h := sw_ifN hb8 h
          refine ga_zeqN (t := 30) qd35_24 e7 hb8 rfl ?_
          refine ga_ii (L' := [some (.ref (z + b)), some (.int (Int32.ofInt (l1 + 1))), some (.int (Int32.ofInt l2))]) qd35_27 rfl rfl ?_
          refine ga_ii (L' := [some (.ref (z + b)), some (.int (Int32.ofInt (l1 + 1))), some (.int (Int32.ofInt (l2 + 1)))]) qd35_30 rfl rfl ?_
          refine ga_jp (t := 4) qd35_33 rfl ?_
          exact sq_weak (L := [some (.ref (z + b)), some (.int (Int32.ofInt (l1 + 1))), some (.int (Int32.ofInt (l2 + 1)))]) ⟨rfl, rfl, rfl, trivial⟩ (ih _ _ h)
      · replace h := sw_ifN hb4 h
        refine ga_cgeN (t := 36) qd35_15 e3 hb4 rfl ?_
        rw [← sw_sj h] at kk
        exact sq_weak (L := [none, some (.int (Int32.ofInt l1)), none]) ⟨rfl, trivial⟩ kk
    · replace h := sw_ifN hb2 h
      refine ga_cgeN (t := 36) qd35_9 e1 hb2 rfl ?_
      rw [← sw_sj h] at kk
      exact sq_weak (L := [none, some (.int (Int32.ofInt l1)), none]) ⟨rfl, trivial⟩ kk
def w47 (b : Nat) (T : sw_T) : Option (Int) :=
  (w47_4 b T sw_N 0 0).bind fun x9 =>
  some (x9)
theorem A35 {G : sp_G} {z n : Nat} (hn : 221 ≤ n) {b : Nat} (hb : b ∈ sw_rm) {T : sw_T} {K : sw_K} {res : Int} {Q : sp_R → sp_M → Prop} (h : w47 b T = some res) (kk : Q (.inl (some (.int (Int32.ofInt res)))) (sw_M z n sw_Ft T K)) : sq_go G 35 0 [some (.ref (z + b)), none, none] [] (sw_M z n sw_Ft T K) Q := by
  unfold w47 at h
  refine go_s qd35_0 rfl ?_
  refine go_l (L' := [some (.ref (z + b)), some (.int (Int32.ofInt 0)), none]) (st' := []) qd35_1 rfl ?_
  refine go_s qd35_2 rfl ?_
  refine go_l (L' := [some (.ref (z + b)), some (.int (Int32.ofInt 0)), some (.int (Int32.ofInt 0))]) (st' := []) qd35_3 rfl ?_
  obtain ⟨x9, e10, h⟩ := sw_bind h
  refine sq_weak (L := [some (.ref (z + b)), some (.int (Int32.ofInt 0)), some (.int (Int32.ofInt 0))]) ⟨rfl, rfl, rfl, trivial⟩ (B35_4 hn hb (res := x9) ?_ _ _ _ e10)
  refine go_l qd35_36 rfl ?_
  rw [← sw_sj h] at kk
  exact ga_ri qd35_37 qr35 kk
theorem qc45 : sq_c 45 = 4 := by decide +kernel
theorem qr45 : sq_ret 45 = some .int := by decide +kernel
-- 45: SewingPiles$Shirts.workLeft()I
def w57_4 (b : Nat) (T : sw_T) : Nat → Int → Int → Option (Int)
  | 0, _, _ => none
  | m + 1, l1, l2 =>
    (sw_r2 l2 (T (b + 20) 0)).bind fun _u =>
    if l2 < (T (b + 20) 0) then
      (sw_r2 l2 120).bind fun _u =>
      if l2 < 120 then
        (sw_ld T (b + 21) 120 l2).bind fun v6 =>
        w57_4 b T m (l1 + v6) (l2 + 1)
      else
        some (l1)
    else
      some (l1)
theorem B45_4 {G : sp_G} {z n : Nat} (hn : 221 ≤ n) {b : Nat} (hb : b ∈ sw_rm) {T : sw_T} {K : sw_K} {res : Int} {Q : sp_R → sp_M → Prop} (kk : sq_go G 45 33 [none, some (.int (Int32.ofInt res)), none] [] (sw_M z n sw_Ft T K) Q) : ∀ (m : Nat) (l1 : Int) (l2 : Int), w57_4 b T m l1 l2 = some res → sq_go G 45 4 [some (.ref (z + (b + 20))), some (.int (Int32.ofInt l1)), some (.int (Int32.ofInt l2))] [] (sw_M z n sw_Ft T K) Q := by
  intro m
  induction m with
  | zero => intro l1 l2 h; cases h
  | succ m ih =>
    intro l1 l2 h
    rw [w57_4] at h
    refine go_l qd45_4 rfl ?_
    refine go_l qd45_5 rfl ?_
    refine ga_gf (v := .int (Int32.ofInt (T (b + 20) 0))) qd45_6 qc45 qf4_21 (sw_rk hn hb 20 (by decide)) rfl rfl ?_
    obtain ⟨_u, e1, h⟩ := sw_bind h
    by_cases hb2 : l2 < (T (b + 20) 0)
    · replace h := sw_ifY hb2 h
      refine ga_cgeY (t := 33) qd45_9 e1 hb2 rfl ?_
      refine go_l qd45_12 rfl ?_
      refine ga_k8 qd45_13 rfl ?_
      obtain ⟨_u, e3, h⟩ := sw_bind h
      by_cases hb4 : l2 < 120
      · replace h := sw_ifY hb4 h
        refine ga_cgeY (t := 33) qd45_15 e3 hb4 rfl ?_
        refine go_l qd45_18 rfl ?_
        refine go_l qd45_19 rfl ?_
        refine ga_gf (v := .ref (z + (b + 21))) qd45_20 qc45 qf4_9 (sw_rk hn hb 20 (by decide)) rfl rfl ?_
        refine go_l qd45_23 rfl ?_
        obtain ⟨v6, e5, h⟩ := sw_bind h
        refine ga_iald qd45_24 (sw_rk hn hb 21 (by decide)) e5 ?_
        refine ga_iadd qd45_25 ?_
        refine go_l (L' := [some (.ref (z + (b + 20))), some (.int (Int32.ofInt (l1 + v6))), some (.int (Int32.ofInt l2))]) (st' := []) qd45_26 rfl ?_
        refine ga_ii (L' := [some (.ref (z + (b + 20))), some (.int (Int32.ofInt (l1 + v6))), some (.int (Int32.ofInt (l2 + 1)))]) qd45_27 rfl rfl ?_
        refine ga_jp (t := 4) qd45_30 rfl ?_
        exact sq_weak (L := [some (.ref (z + (b + 20))), some (.int (Int32.ofInt (l1 + v6))), some (.int (Int32.ofInt (l2 + 1)))]) ⟨rfl, rfl, rfl, trivial⟩ (ih _ _ h)
      · replace h := sw_ifN hb4 h
        refine ga_cgeN (t := 33) qd45_15 e3 hb4 rfl ?_
        rw [← sw_sj h] at kk
        exact sq_weak (L := [none, some (.int (Int32.ofInt l1)), none]) ⟨rfl, trivial⟩ kk
    · replace h := sw_ifN hb2 h
      refine ga_cgeN (t := 33) qd45_9 e1 hb2 rfl ?_
      rw [← sw_sj h] at kk
      exact sq_weak (L := [none, some (.int (Int32.ofInt l1)), none]) ⟨rfl, trivial⟩ kk
def w57 (b : Nat) (T : sw_T) : Option (Int) :=
  (w57_4 b T sw_N 0 0).bind fun x7 =>
  some (x7)
theorem A45 {G : sp_G} {z n : Nat} (hn : 221 ≤ n) {b : Nat} (hb : b ∈ sw_rm) {T : sw_T} {K : sw_K} {res : Int} {Q : sp_R → sp_M → Prop} (h : w57 b T = some res) (kk : Q (.inl (some (.int (Int32.ofInt res)))) (sw_M z n sw_Ft T K)) : sq_go G 45 0 [some (.ref (z + (b + 20))), none, none] [] (sw_M z n sw_Ft T K) Q := by
  unfold w57 at h
  refine go_s qd45_0 rfl ?_
  refine go_l (L' := [some (.ref (z + (b + 20))), some (.int (Int32.ofInt 0)), none]) (st' := []) qd45_1 rfl ?_
  refine go_s qd45_2 rfl ?_
  refine go_l (L' := [some (.ref (z + (b + 20))), some (.int (Int32.ofInt 0)), some (.int (Int32.ofInt 0))]) (st' := []) qd45_3 rfl ?_
  obtain ⟨x7, e8, h⟩ := sw_bind h
  refine sq_weak (L := [some (.ref (z + (b + 20))), some (.int (Int32.ofInt 0)), some (.int (Int32.ofInt 0))]) ⟨rfl, rfl, rfl, trivial⟩ (B45_4 hn hb (res := x7) ?_ _ _ _ e8)
  refine go_l qd45_33 rfl ?_
  rw [← sw_sj h] at kk
  exact ga_ri qd45_34 qr45 kk
theorem qc31 : sq_c 31 = 3 := by decide +kernel
theorem qr31 : sq_ret 31 = some .int := by decide +kernel
theorem qk31_145 : sw_ck 31 145 33 0 0 3 1 = true := by decide +kernel
theorem qf3_155 : (sp_fd sp_flT 3 155).or (sp_fd sp_fnT 3 155) = some (2, 0) := by decide +kernel
theorem qk31_158 : sw_ck 31 158 36 0 1 3 4 = true := by decide +kernel
theorem qk31_162 : sw_ck 31 162 34 0 0 3 3 = true := by decide +kernel
theorem qk31_149 : sw_ck 31 149 35 0 0 3 3 = true := by decide +kernel
theorem qk31_165 : sw_ck 31 165 45 0 0 4 3 = true := by decide +kernel
-- 31: SewingPiles$Room.countedNumber(I)I
def w43 (b : Nat) (T : sw_T) (p1 : Int) : Option (Int) :=
  (sw_r1 p1).bind fun _u =>
  if p1 = 0 then
    some ((T b 0))
  else
  if p1 = 1 then
    some ((T b 1))
  else
  if p1 = 2 then
    some ((T (b + 20) 0))
  else
  if p1 = 3 then
    (w45 b T).bind fun r7 =>
    some (r7)
  else
  if p1 = 4 then
    (w48 b (b + 11) T).bind fun r10 =>
    some (r10)
  else
  if p1 = 5 then
    (w46 b T).bind fun r13 =>
    some (r13)
  else
  if p1 = 6 then
    (w48 b (b + 7) T).bind fun r16 =>
    some (r16)
  else
  if p1 = 7 then
    (w48 b (b + 9) T).bind fun r19 =>
    some (r19)
  else
  if p1 = 8 then
    some ((T b 3))
  else
  if p1 = 9 then
    (w47 b T).bind fun r23 =>
    some (r23)
  else
    (w57 b T).bind fun r25 =>
    some (r25)
theorem A31 {G : sp_G} {z n : Nat} (hn : 221 ≤ n) {b : Nat} (hb : b ∈ sw_rm) {T : sw_T} {K : sw_K} {p1 : Int} {res : Int} {Q : sp_R → sp_M → Prop} (h : w43 b T p1 = some res) (kk : Q (.inl (some (.int (Int32.ofInt res)))) (sw_M z n sw_Ft T K)) : sq_go G 31 0 [some (.ref (z + b)), some (.int (Int32.ofInt p1))] [] (sw_M z n sw_Ft T K) Q := by
  unfold w43 at h
  refine go_l qd31_0 rfl ?_
  obtain ⟨_u, e1, h⟩ := sw_bind h
  by_cases hb2 : p1 = 0
  · replace h := sw_ifY hb2 h
    refine ga_sw (t := 56) qd31_1 rfl hb2 rfl ?_
    refine go_l qd31_56 rfl ?_
    refine ga_gf (v := .int (Int32.ofInt (T b 0))) qd31_57 qc31 qf3_58 (sw_rb hn hb) rfl rfl ?_
    rw [← sw_sj h] at kk
    exact ga_ri qd31_60 qr31 kk
  · replace h := sw_ifN hb2 h
    by_cases hb3 : p1 = 1
    · replace h := sw_ifY hb3 h
      refine ga_sw (t := 61) qd31_1 rfl hb3 rfl ?_
      refine go_l qd31_61 rfl ?_
      refine ga_gf (v := .int (Int32.ofInt (T b 1))) qd31_62 qc31 qf3_9 (sw_rb hn hb) rfl rfl ?_
      rw [← sw_sj h] at kk
      exact ga_ri qd31_65 qr31 kk
    · replace h := sw_ifN hb3 h
      by_cases hb4 : p1 = 2
      · replace h := sw_ifY hb4 h
        refine ga_sw (t := 66) qd31_1 rfl hb4 rfl ?_
        refine go_l qd31_66 rfl ?_
        refine ga_gf (v := .ref (z + (b + 20))) qd31_67 qc31 qf3_54 (sw_rb hn hb) rfl rfl ?_
        refine ga_gf (v := .int (Int32.ofInt (T (b + 20) 0))) qd31_70 qc31 qf3_82 (sw_rk hn hb 20 (by decide)) rfl rfl ?_
        rw [← sw_sj h] at kk
        exact ga_ri qd31_73 qr31 kk
      · replace h := sw_ifN hb4 h
        by_cases hb5 : p1 = 3
        · replace h := sw_ifY hb5 h
          refine ga_sw (t := 74) qd31_1 rfl hb5 rfl ?_
          refine go_l qd31_74 rfl ?_
          obtain ⟨r7, e6, h⟩ := sw_bind h
          refine ga_kv (a := b) (as := []) (rest := []) qd31_75 qk31_145 (sw_rb hn hb) rfl rfl rfl (Nat.le_of_ble_eq_true rfl) (Nat.le_of_ble_eq_true rfl) rfl (A33 hn hb e6 (sw_bkv ?_))
          rw [← sw_sj h] at kk
          exact ga_ri qd31_78 qr31 kk
        · replace h := sw_ifN hb5 h
          by_cases hb8 : p1 = 4
          · replace h := sw_ifY hb8 h
            refine ga_sw (t := 79) qd31_1 rfl hb8 rfl ?_
            refine go_l qd31_79 rfl ?_
            refine go_l qd31_80 rfl ?_
            refine ga_gf (v := .ref (z + (b + 10))) qd31_81 qc31 qf3_47 (sw_rb hn hb) rfl rfl ?_
            refine ga_gf (v := .ref (z + (b + 11))) qd31_84 qc31 qf3_155 (sw_rk hn hb 10 (by decide)) rfl rfl ?_
            obtain ⟨r10, e9, h⟩ := sw_bind h
            refine ga_kv (a := b) (as := [.ref (z + (b + 11))]) (rest := []) qd31_87 qk31_158 (sw_rb hn hb) rfl rfl rfl (Nat.le_of_ble_eq_true rfl) (Nat.le_of_ble_eq_true rfl) rfl (A36 hn hb (sw_rk hn hb 11 (by decide)) e9 (sw_bkv ?_))
            rw [← sw_sj h] at kk
            exact ga_ri qd31_90 qr31 kk
          · replace h := sw_ifN hb8 h
            by_cases hb11 : p1 = 5
            · replace h := sw_ifY hb11 h
              refine ga_sw (t := 91) qd31_1 rfl hb11 rfl ?_
              refine go_l qd31_91 rfl ?_
              obtain ⟨r13, e12, h⟩ := sw_bind h
              refine ga_kv (a := b) (as := []) (rest := []) qd31_92 qk31_162 (sw_rb hn hb) rfl rfl rfl (Nat.le_of_ble_eq_true rfl) (Nat.le_of_ble_eq_true rfl) rfl (A34 hn hb e12 (sw_bkv ?_))
              rw [← sw_sj h] at kk
              exact ga_ri qd31_95 qr31 kk
            · replace h := sw_ifN hb11 h
              by_cases hb14 : p1 = 6
              · replace h := sw_ifY hb14 h
                refine ga_sw (t := 96) qd31_1 rfl hb14 rfl ?_
                refine go_l qd31_96 rfl ?_
                refine go_l qd31_97 rfl ?_
                refine ga_gf (v := .ref (z + (b + 7))) qd31_98 qc31 qf3_35 (sw_rb hn hb) rfl rfl ?_
                obtain ⟨r16, e15, h⟩ := sw_bind h
                refine ga_kv (a := b) (as := [.ref (z + (b + 7))]) (rest := []) qd31_101 qk31_158 (sw_rb hn hb) rfl rfl rfl (Nat.le_of_ble_eq_true rfl) (Nat.le_of_ble_eq_true rfl) rfl (A36 hn hb (sw_rk hn hb 7 (by decide)) e15 (sw_bkv ?_))
                rw [← sw_sj h] at kk
                exact ga_ri qd31_104 qr31 kk
              · replace h := sw_ifN hb14 h
                by_cases hb17 : p1 = 7
                · replace h := sw_ifY hb17 h
                  refine ga_sw (t := 105) qd31_1 rfl hb17 rfl ?_
                  refine go_l qd31_105 rfl ?_
                  refine go_l qd31_106 rfl ?_
                  refine ga_gf (v := .ref (z + (b + 9))) qd31_107 qc31 qf3_41 (sw_rb hn hb) rfl rfl ?_
                  obtain ⟨r19, e18, h⟩ := sw_bind h
                  refine ga_kv (a := b) (as := [.ref (z + (b + 9))]) (rest := []) qd31_110 qk31_158 (sw_rb hn hb) rfl rfl rfl (Nat.le_of_ble_eq_true rfl) (Nat.le_of_ble_eq_true rfl) rfl (A36 hn hb (sw_rk hn hb 9 (by decide)) e18 (sw_bkv ?_))
                  rw [← sw_sj h] at kk
                  exact ga_ri qd31_113 qr31 kk
                · replace h := sw_ifN hb17 h
                  by_cases hb20 : p1 = 8
                  · replace h := sw_ifY hb20 h
                    refine ga_sw (t := 114) qd31_1 rfl hb20 rfl ?_
                    refine go_l qd31_114 rfl ?_
                    refine ga_gf (v := .int (Int32.ofInt (T b 3))) qd31_115 qc31 qf3_64 (sw_rb hn hb) rfl rfl ?_
                    rw [← sw_sj h] at kk
                    exact ga_ri qd31_118 qr31 kk
                  · replace h := sw_ifN hb20 h
                    by_cases hb21 : p1 = 9
                    · replace h := sw_ifY hb21 h
                      refine ga_sw (t := 119) qd31_1 rfl hb21 rfl ?_
                      refine go_l qd31_119 rfl ?_
                      obtain ⟨r23, e22, h⟩ := sw_bind h
                      refine ga_kv (a := b) (as := []) (rest := []) qd31_120 qk31_149 (sw_rb hn hb) rfl rfl rfl (Nat.le_of_ble_eq_true rfl) (Nat.le_of_ble_eq_true rfl) rfl (A35 hn hb e22 (sw_bkv ?_))
                      rw [← sw_sj h] at kk
                      exact ga_ri qd31_123 qr31 kk
                    · replace h := sw_ifN hb21 h
                      refine ga_tsd (t := 124) qd31_1 e1 (by omega) rfl ?_
                      refine go_l qd31_124 rfl ?_
                      refine ga_gf (v := .ref (z + (b + 20))) qd31_125 qc31 qf3_54 (sw_rb hn hb) rfl rfl ?_
                      obtain ⟨r25, e24, h⟩ := sw_bind h
                      refine ga_kv (a := (b + 20)) (as := []) (rest := []) qd31_128 qk31_165 (sw_rk hn hb 20 (by decide)) rfl rfl rfl (Nat.le_of_ble_eq_true rfl) (Nat.le_of_ble_eq_true rfl) rfl (A45 hn hb e24 (sw_bkv ?_))
                      rw [← sw_sj h] at kk
                      exact ga_ri qd31_131 qr31 kk
theorem qk44_25 : sw_ck 44 25 39 0 1 4 2 = true := by decide +kernel
theorem qr44 : sq_ret 44 = some .int := by decide +kernel
theorem qc44 : sq_c 44 = 4 := by decide +kernel
-- 44: SewingPiles$Shirts.number(II)I
def w56 (b : Nat) (T : sw_T) (p1 : Int) (p2 : Int) : Option (Int) :=
  (w51 b T p1).bind fun r2 =>
  (sw_r1 r2).bind fun _u =>
  if r2 = 0 then
    some ((-1))
  else
    (sw_r1 p2).bind fun _u =>
    if p2 = 0 then
      (sw_ld T (b + 21) 120 p1).bind fun v8 =>
      some (v8)
    else
    if p2 = 1 then
      (sw_ld T (b + 22) 120 p1).bind fun v11 =>
      some (v11)
    else
      (sw_ld T (b + 23) 120 p1).bind fun v13 =>
      some (v13)
theorem A44 {G : sp_G} {z n : Nat} (hn : 221 ≤ n) {b : Nat} (hb : b ∈ sw_rm) {T : sw_T} {K : sw_K} {p1 : Int} {p2 : Int} {res : Int} {Q : sp_R → sp_M → Prop} (h : w56 b T p1 p2 = some res) (kk : Q (.inl (some (.int (Int32.ofInt res)))) (sw_M z n sw_Ft T K)) : sq_go G 44 0 [some (.ref (z + (b + 20))), some (.int (Int32.ofInt p1)), some (.int (Int32.ofInt p2))] [] (sw_M z n sw_Ft T K) Q := by
  unfold w56 at h
  refine go_l qd44_0 rfl ?_
  refine go_l qd44_1 rfl ?_
  obtain ⟨r2, e1, h⟩ := sw_bind h
  refine ga_kv (a := (b + 20)) (as := [.int (Int32.ofInt p1)]) (rest := []) qd44_2 qk44_25 (sw_rk hn hb 20 (by decide)) rfl rfl rfl (Nat.le_of_ble_eq_true rfl) (Nat.le_of_ble_eq_true rfl) rfl (A39 hn hb e1 (sw_bkv ?_))
  obtain ⟨_u, e3, h⟩ := sw_bind h
  by_cases hb4 : r2 = 0
  · replace h := sw_ifY hb4 h
    refine ga_zneY (t := 10) qd44_5 e3 hb4 rfl ?_
    refine go_s qd44_8 rfl ?_
    rw [← sw_sj h] at kk
    exact ga_ri qd44_9 qr44 kk
  · replace h := sw_ifN hb4 h
    refine ga_zneN (t := 10) qd44_5 e3 hb4 rfl ?_
    refine go_l qd44_10 rfl ?_
    obtain ⟨_u, e5, h⟩ := sw_bind h
    by_cases hb6 : p2 = 0
    · replace h := sw_ifY hb6 h
      refine ga_sw (t := 36) qd44_11 rfl hb6 rfl ?_
      refine go_l qd44_36 rfl ?_
      refine ga_gf (v := .ref (z + (b + 21))) qd44_37 qc44 qf4_9 (sw_rk hn hb 20 (by decide)) rfl rfl ?_
      refine go_l qd44_40 rfl ?_
      obtain ⟨v8, e7, h⟩ := sw_bind h
      refine ga_iald qd44_41 (sw_rk hn hb 21 (by decide)) e7 ?_
      rw [← sw_sj h] at kk
      exact ga_ri qd44_42 qr44 kk
    · replace h := sw_ifN hb6 h
      by_cases hb9 : p2 = 1
      · replace h := sw_ifY hb9 h
        refine ga_sw (t := 43) qd44_11 rfl hb9 rfl ?_
        refine go_l qd44_43 rfl ?_
        refine ga_gf (v := .ref (z + (b + 22))) qd44_44 qc44 qf4_15 (sw_rk hn hb 20 (by decide)) rfl rfl ?_
        refine go_l qd44_47 rfl ?_
        obtain ⟨v11, e10, h⟩ := sw_bind h
        refine ga_iald qd44_48 (sw_rk hn hb 22 (by decide)) e10 ?_
        rw [← sw_sj h] at kk
        exact ga_ri qd44_49 qr44 kk
      · replace h := sw_ifN hb9 h
        refine ga_lsd (t := 50) qd44_11 e5 (by decide) (by intro p hp; simp only [List.mem_cons, List.not_mem_nil, or_false] at hp; rcases hp with rfl | rfl <;> (dsimp only; omega)) rfl ?_
        refine go_l qd44_50 rfl ?_
        refine ga_gf (v := .ref (z + (b + 23))) qd44_51 qc44 qf4_18 (sw_rk hn hb 20 (by decide)) rfl rfl ?_
        refine go_l qd44_54 rfl ?_
        obtain ⟨v13, e12, h⟩ := sw_bind h
        refine ga_iald qd44_55 (sw_rk hn hb 23 (by decide)) e12 ?_
        rw [← sw_sj h] at kk
        exact ga_ri qd44_56 qr44 kk
theorem qt66_11 : sw_tq 66 11 0 = true := by decide +kernel
theorem qr66 : sq_ret 66 = none := by decide +kernel
-- 66: SewingPiles.checkSpeed(I)V
def w91 (T : sw_T) (p0 : Int) : Option ((Unit) ⊕ Nat) :=
  (sw_r2 p0 1).bind fun _u =>
  if p0 < 1 then
    some (.inr 0)
  else
    (sw_r2 p0 9).bind fun _u =>
    if 9 < p0 then
      some (.inr 0)
    else
      some (.inl (()))
theorem A66 {G : sp_G} {z n : Nat} (hn : 221 ≤ n) {T : sw_T} {K : sw_K} {p0 : Int} {res : (Unit) ⊕ Nat} {Q : sp_R → sp_M → Prop} (h : w91 T p0 = some res) (kk : ∀ r, res = .inl r → Q (.inl none) (sw_M z n sw_Ft T K)) (kx : ∀ E, res = .inr E → Q (.inr (sw_en E)) (sw_M z n sw_Ft T (sw_th K))) : sq_go G 66 0 [some (.int (Int32.ofInt p0))] [] (sw_M z n sw_Ft T K) Q := by
  unfold w91 at h
  refine go_l qd66_0 rfl ?_
  refine go_s qd66_1 rfl ?_
  obtain ⟨_u, e1, h⟩ := sw_bind h
  by_cases hb2 : p0 < 1
  · replace h := sw_ifY hb2 h
    refine ga_cltY (t := 11) qd66_2 e1 hb2 rfl ?_
    exact ga_th qt66_11 (Nat.le_of_ble_eq_true rfl) (kx _ (sw_sj h).symm)
  · replace h := sw_ifN hb2 h
    refine ga_cltN (t := 11) qd66_2 e1 hb2 rfl ?_
    refine go_l qd66_5 rfl ?_
    refine ga_k8 qd66_6 rfl ?_
    obtain ⟨_u, e3, h⟩ := sw_bind h
    by_cases hb4 : 9 < p0
    · replace h := sw_ifY hb4 h
      refine ga_cleY (t := 22) qd66_8 e3 hb4 rfl ?_
      exact ga_th qt66_11 (Nat.le_of_ble_eq_true rfl) (kx _ (sw_sj h).symm)
    · replace h := sw_ifN hb4 h
      refine ga_cleN (t := 22) qd66_8 e3 hb4 rfl ?_
      exact ga_rv qd66_22 qr66 (kk _ (sw_sj h).symm)
theorem qk47_36 : sw_ck 47 36 66 1 1 5 1 = true := by decide +kernel
theorem qf5_10 : (sp_fd sp_flT 5 10).or (sp_fd sp_fnT 5 10) = some (5, 0) := by decide +kernel
theorem qc47 : sq_c 47 = 5 := by decide +kernel
theorem qf5_40 : (sp_fd sp_flT 5 40).or (sp_fd sp_fnT 5 40) = some (3, 1) := by decide +kernel
theorem qf5_25 : (sp_fd sp_flT 5 25).or (sp_fd sp_fnT 5 25) = some (5, 3) := by decide +kernel
theorem qk47_51 : sw_ck 47 51 1 0 1 0 3 = true := by decide +kernel
theorem qk47_55 : sw_ck 47 55 15 0 1 3 2 = true := by decide +kernel
theorem qr47 : sq_ret 47 = some .int := by decide +kernel
theorem qt47_16 : sw_tq 47 16 1 = true := by decide +kernel
theorem qn47 : sw_nh 47 = true := by decide +kernel
-- 47: SewingPiles.hire(I)I
def w59 (T : sw_T) (p1 : Int) : Option ((Int × sw_T) ⊕ Nat) :=
  (w91 T p1).bind fun r2 =>
  sw_el r2 (fun r3 =>
    (sw_r2 (T 1 1) 6).bind fun _u =>
    if (T 1 1) < 6 then
      (w1 1 T).bind fun r10 =>
      (w26 1 r10 p1).bind fun r12 =>
      some (.inl ((r12.1, r12.2)))
    else
      some (.inr 1)
  ) (fun E4 =>
  some (.inr E4))
theorem A47 {G : sp_G} {z n : Nat} (hn : 221 ≤ n) {T : sw_T} {K : sw_K} {p1 : Int} {res : (Int × sw_T) ⊕ Nat} {Q : sp_R → sp_M → Prop} (h : w59 T p1 = some res) (kk : ∀ r, res = .inl r → Q (.inl (some (.int (Int32.ofInt r.1)))) (sw_M z n sw_Ft r.2 K)) (kx : ∀ E, res = .inr E → Q (.inr (sw_en E)) (sw_M z n sw_Ft T (sw_th K))) : sq_go G 47 0 [some (.ref (z + 0)), some (.int (Int32.ofInt p1))] [] (sw_M z n sw_Ft T K) Q := by
  unfold w59 at h
  refine go_l qd47_0 rfl ?_
  obtain ⟨r2, e1, h⟩ := sw_bind h
  refine ga_kS (as := [.int (Int32.ofInt p1)]) (rest := []) qd47_1 qk47_36 rfl rfl (Nat.le_of_ble_eq_true rfl) (Nat.le_of_ble_eq_true rfl) rfl (A66 hn e1 (fun r3 g5 => ?_) (fun E4 g6 => ?_))
  · refine sw_bk0 ?_
    replace h := sw_elL g5 h
    refine go_l qd47_4 rfl ?_
    refine ga_gf (v := .ref (z + 1)) qd47_5 qc47 qf5_10 (sw_sl hn (by decide)) rfl rfl ?_
    refine ga_gf (v := .int (Int32.ofInt (T 1 1))) qd47_8 qc47 qf5_40 (sw_sl hn (by decide)) rfl rfl ?_
    refine ga_k8 qd47_11 rfl ?_
    obtain ⟨_u, e7, h⟩ := sw_bind h
    by_cases hb8 : (T 1 1) < 6
    · replace h := sw_ifY hb8 h
      refine ga_cltY (t := 26) qd47_13 e7 hb8 rfl ?_
      refine go_l qd47_26 rfl ?_
      refine ga_gf (v := .ref (z + 73)) qd47_27 qc47 qf5_25 (sw_sl hn (by decide)) rfl rfl ?_
      refine go_l qd47_30 rfl ?_
      refine ga_gf (v := .ref (z + 1)) qd47_31 qc47 qf5_10 (sw_sl hn (by decide)) rfl rfl ?_
      obtain ⟨r10, e9, h⟩ := sw_bind h
      refine ga_kv (a := 73) (as := [.ref (z + 1)]) (rest := []) qd47_34 qk47_51 (sw_sl hn (by decide)) rfl rfl rfl (Nat.le_of_ble_eq_true rfl) (Nat.le_of_ble_eq_true rfl) rfl (A1 hn (by decide) e9 (sw_bk0 ?_))
      refine go_l qd47_37 rfl ?_
      refine ga_gf (v := .ref (z + 1)) qd47_38 qc47 qf5_10 (sw_sl hn (by decide)) rfl rfl ?_
      refine go_l qd47_41 rfl ?_
      obtain ⟨r12, e11, h⟩ := sw_bind h
      refine ga_kv (a := 1) (as := [.int (Int32.ofInt p1)]) (rest := []) qd47_42 qk47_55 (sw_sl hn (by decide)) rfl rfl rfl (Nat.le_of_ble_eq_true rfl) (Nat.le_of_ble_eq_true rfl) rfl (A15 hn (by decide) e11 (sw_bkv ?_))
      exact ga_ri qd47_45 qr47 (kk _ (sw_sj h).symm)
    · replace h := sw_ifN hb8 h
      refine ga_cltN (t := 26) qd47_13 e7 hb8 rfl ?_
      exact ga_th qt47_16 (Nat.le_of_ble_eq_true rfl) (kx _ (sw_sj h).symm)
  · replace h := sw_elR g6 h
    exact sw_thn qn47 (kx _ (sw_sj h).symm)
theorem qc65 : sq_c 65 = 5 := by decide +kernel
theorem qk65_293 : sw_ck 65 293 14 0 1 3 2 = true := by decide +kernel
theorem qt65_11 : sw_tq 65 11 2 = true := by decide +kernel
theorem qr65 : sq_ret 65 = none := by decide +kernel
-- 65: SewingPiles.checkSeamstress(I)V
def w90 (T : sw_T) (p1 : Int) : Option ((Unit) ⊕ Nat) :=
  (w25 1 T p1).bind fun r2 =>
  (sw_r1 r2).bind fun _u =>
  if r2 = 0 then
    some (.inr 2)
  else
    some (.inl (()))
theorem A65 {G : sp_G} {z n : Nat} (hn : 221 ≤ n) {T : sw_T} {K : sw_K} {p1 : Int} {res : (Unit) ⊕ Nat} {Q : sp_R → sp_M → Prop} (h : w90 T p1 = some res) (kk : ∀ r, res = .inl r → Q (.inl none) (sw_M z n sw_Ft T K)) (kx : ∀ E, res = .inr E → Q (.inr (sw_en E)) (sw_M z n sw_Ft T (sw_th K))) : sq_go G 65 0 [some (.ref (z + 0)), some (.int (Int32.ofInt p1))] [] (sw_M z n sw_Ft T K) Q := by
  unfold w90 at h
  refine go_l qd65_0 rfl ?_
  refine ga_gf (v := .ref (z + 1)) qd65_1 qc65 qf5_10 (sw_sl hn (by decide)) rfl rfl ?_
  refine go_l qd65_4 rfl ?_
  obtain ⟨r2, e1, h⟩ := sw_bind h
  refine ga_kv (a := 1) (as := [.int (Int32.ofInt p1)]) (rest := []) qd65_5 qk65_293 (sw_sl hn (by decide)) rfl rfl rfl (Nat.le_of_ble_eq_true rfl) (Nat.le_of_ble_eq_true rfl) rfl (A14 hn (by decide) e1 (sw_bkv ?_))
  obtain ⟨_u, e3, h⟩ := sw_bind h
  by_cases hb4 : r2 = 0
  · replace h := sw_ifY hb4 h
    refine ga_zneY (t := 22) qd65_8 e3 hb4 rfl ?_
    exact ga_th qt65_11 (Nat.le_of_ble_eq_true rfl) (kx _ (sw_sj h).symm)
  · replace h := sw_ifN hb4 h
    refine ga_zneN (t := 22) qd65_8 e3 hb4 rfl ?_
    exact ga_rv qd65_22 qr65 (kk _ (sw_sj h).symm)
