/-! ===== the text: the reference's reading ===== -/
def wt_sg (c : Int → Int) (L a : Int) : Int := if a < L then c a else 0
def wt_tx (Tm : sw_T) (c : Int → Int) (L : Int) : Prop := Tm 221 8 = L ∧ (0 ≤ L ∧ L ≤ 60) ∧ ∀ i, 0 ≤ i ∧ i < L → Tm 226 i = c i ∧ 33 ≤ c i ∧ c i ≤ 126
/-- the reader: where it stands, whether all is well, how many orders, what was read -/
def wt_S (Tm : sw_T) (a w r : Int) (rd : Int → Int) (X : sw_T) : Prop := X 221 10 = a ∧ X 221 11 = w ∧ X 221 13 = r ∧ X 227 = rd ∧ (∀ k, k ≠ 10 → k ≠ 11 → k ≠ 13 → X 221 k = Tm 221 k) ∧ (∀ t, t ≠ 221 → t ≠ 227 → X t = Tm t)
theorem wt_pa {Tm X : sw_T} {a w r v : Int} {rd : Int → Int} (h : wt_S Tm a w r rd X) : ∃ X', sw_pf X 221 10 v = some X' ∧ wt_S Tm v w r rd X' := by
  obtain ⟨h1, h2, h3, h4, h5, h6⟩ := h
  refine ⟨_, rfl, ?_, ?_, ?_, ?_, fun k k1 k2 k3 => ?_, fun t t1 t2 => ?_⟩
  · rw [wb_rdu, if_pos rfl, if_pos rfl]
  · rw [wb_rdu, if_pos rfl, if_neg (by decide), h2]
  · rw [wb_rdu, if_pos rfl, if_neg (by decide), h3]
  · rw [sw_up_ne (by decide), h4]
  · rw [wb_rdu, if_pos rfl, if_neg k1, h5 k k1 k2 k3]
  · rw [sw_up_ne t1, h6 t t1 t2]
theorem wt_pw {Tm X : sw_T} {a w r v : Int} {rd : Int → Int} (h : wt_S Tm a w r rd X) (hv : v = 0 ∨ v = 1) : ∃ X', sw_pb X 221 11 v = some X' ∧ wt_S Tm a v r rd X' := by
  obtain ⟨h1, h2, h3, h4, h5, h6⟩ := h
  refine ⟨_, wb_pb hv, ?_, ?_, ?_, ?_, fun k k1 k2 k3 => ?_, fun t t1 t2 => ?_⟩
  · rw [wb_rdu, if_pos rfl, if_neg (by decide), h1]
  · rw [wb_rdu, if_pos rfl, if_pos rfl]
  · rw [wb_rdu, if_pos rfl, if_neg (by decide), h3]
  · rw [sw_up_ne (by decide), h4]
  · rw [wb_rdu, if_pos rfl, if_neg k2, h5 k k1 k2 k3]
  · rw [sw_up_ne t1, h6 t t1 t2]
theorem wt_pr {Tm X : sw_T} {a w r v : Int} {rd : Int → Int} (h : wt_S Tm a w r rd X) : ∃ X', sw_pf X 221 13 v = some X' ∧ wt_S Tm a w v rd X' := by
  obtain ⟨h1, h2, h3, h4, h5, h6⟩ := h
  refine ⟨_, rfl, ?_, ?_, ?_, ?_, fun k k1 k2 k3 => ?_, fun t t1 t2 => ?_⟩
  · rw [wb_rdu, if_pos rfl, if_neg (by decide), h1]
  · rw [wb_rdu, if_pos rfl, if_neg (by decide), h2]
  · rw [wb_rdu, if_pos rfl, if_pos rfl]
  · rw [sw_up_ne (by decide), h4]
  · rw [wb_rdu, if_pos rfl, if_neg k3, h5 k k1 k2 k3]
  · rw [sw_up_ne t1, h6 t t1 t2]
theorem wt_pd {Tm X : sw_T} {a w r k v : Int} {rd : Int → Int} (h : wt_S Tm a w r rd X) (hk : 0 ≤ k ∧ k < 100) : ∃ X', sw_st X 227 100 k v = some X' ∧ wt_S Tm a w r (sw_ui rd k v) X' := by
  obtain ⟨h1, h2, h3, h4, h5, h6⟩ := h
  refine ⟨_, wb_st ⟨hk.1, by omega⟩, ?_, ?_, ?_, ?_, fun k k1 k2 k3 => ?_, fun t t1 t2 => ?_⟩
  · rw [sw_up_ne (by decide), h1]
  · rw [sw_up_ne (by decide), h2]
  · rw [sw_up_ne (by decide), h3]
  · rw [sw_up_eq, h4]
  · rw [sw_up_ne (by decide), h5 k k1 k2 k3]
  · rw [sw_up_ne t2, h6 t t1 t2]
theorem wt_sg_ok {Tm : sw_T} {c : Int → Int} {L a : Int} (t : wt_tx Tm c L) (ha : 0 ≤ a) : (0 ≤ wt_sg c L a ∧ wt_sg c L a ≤ 126) ∧ (wt_sg c L a ≠ 0 → a < L ∧ wt_sg c L a = c a) := by
  unfold wt_sg
  by_cases h : a < L
  · rw [if_pos h]
    have := t.2.2 a ⟨ha, h⟩
    exact ⟨⟨by omega, by omega⟩, fun _ => ⟨h, rfl⟩⟩
  · rw [if_neg h]
    exact ⟨⟨by decide, by decide⟩, fun g => absurd rfl g⟩
theorem wt_sign {Tm X : sw_T} {c : Int → Int} {L a w r : Int} {rd : Int → Int} (t : wt_tx Tm c L) (h : wt_S Tm a w r rd X) (ha : 0 ≤ a ∧ a ≤ L) : w135 X = some (wt_sg c L a) := by
  obtain ⟨h1, h2, h3, h4, h5, h6⟩ := h
  obtain ⟨t1, t2, t3⟩ := t
  unfold w135 wt_sg
  rw [h1, h5 8 (by decide) (by decide) (by decide), t1, wb_r2 ⟨by omega, by omega⟩ ⟨by omega, by omega⟩, Option.bind_some]
  by_cases g : a < L
  · rw [if_pos g, if_pos g, wb_ld ⟨ha.1, by omega⟩, Option.bind_some, h6 226 (by decide) (by decide), (t3 a ⟨ha.1, g⟩).1]
  · rw [if_neg g, if_neg g]
theorem wt_25 {Tm X : sw_T} {c : Int → Int} {L a w r s : Int} {rd : Int → Int} (t : wt_tx Tm c L) (h : wt_S Tm a w r rd X) (ha : 0 ≤ a ∧ a ≤ L) (hs : s = 0 ∨ s = 1) : ∃ X', w136_25 X s = some (wt_sg c L a - 48, X') ∧ wt_S Tm (a + s) s r rd X' := by
  obtain ⟨X1, e1, s1⟩ := wt_pw h hs
  obtain ⟨X2, e2, s2⟩ := wt_pa (v := X1 221 10 + s) s1
  refine ⟨X2, ?_, by rw [s1.1] at s2; exact s2⟩
  unfold w136_25
  rw [e1, Option.bind_some, wt_sign t s1 ha, Option.bind_some, s1.2.1, wb_r1 ⟨by omega, by omega⟩, Option.bind_some]
  rcases hs with rfl | rfl
  · rw [if_pos rfl, e2, Option.bind_some]
  · rw [if_neg (by decide), e2, Option.bind_some]
theorem wt_dig1 {Tm X : sw_T} {c : Int → Int} {L a r lo hi : Int} {rd : Int → Int} (t : wt_tx Tm c L) (h : wt_S Tm a 1 r rd X) (ha : 0 ≤ a ∧ a ≤ L) (hb : wb_rg lo ∧ wb_rg hi) (hy : lo ≤ wt_sg c L a ∧ wt_sg c L a ≤ hi) : ∃ X', w136 X lo hi = some (wt_sg c L a - 48, X') ∧ wt_S Tm (a + 1) 1 r rd X' := by
  obtain ⟨X', e, s⟩ := wt_25 t h ha (.inr rfl)
  refine ⟨X', ?_, s⟩
  unfold w136
  rw [h.2.1, wb_r1 (by decide), Option.bind_some, if_neg (by decide), wt_sign t h ha, Option.bind_some, wb_w96y hb.1 hb.2 hy, Option.bind_some, wb_r1 (by decide), Option.bind_some, if_neg (by decide), e]
theorem wt_dig0 {Tm X : sw_T} {c : Int → Int} {L a w r lo hi : Int} {rd : Int → Int} (t : wt_tx Tm c L) (h : wt_S Tm a w r rd X) (ha : 0 ≤ a ∧ a ≤ L) (hb : wb_rg lo ∧ wb_rg hi) (hw : w = 0 ∨ w = 1) (hy : w = 0 ∨ ¬ (lo ≤ wt_sg c L a ∧ wt_sg c L a ≤ hi)) : ∃ X', w136 X lo hi = some (wt_sg c L a - 48, X') ∧ wt_S Tm a 0 r rd X' := by
  obtain ⟨X', e, s⟩ := wt_25 t h ha (.inl rfl)
  rw [Int.add_zero] at s
  have hsg := (wt_sg_ok t ha.1).1
  refine ⟨X', ?_, s⟩
  unfold w136
  rw [h.2.1, wb_r1 ⟨by omega, by omega⟩, Option.bind_some]
  by_cases h0 : w = 0
  · rw [if_pos h0]
    exact e
  · have hy2 : ¬ (lo ≤ wt_sg c L a ∧ wt_sg c L a ≤ hi) := by
      rcases hy with g | g
      · exact absurd g h0
      · exact g
    rw [if_neg h0, wt_sign t h ha, Option.bind_some, wb_w96n ⟨by omega, by omega⟩ hb.1 hb.2 hy2, Option.bind_some, wb_r1 (by decide), Option.bind_some, if_pos rfl]
    exact e
/-- a number of one or two digits -/
def wt_nb (c : Int → Int) (L p p' n : Int) : Prop := p < L ∧ (49 ≤ c p ∧ c p ≤ 57) ∧ (((48 ≤ wt_sg c L (p + 1) ∧ wt_sg c L (p + 1) ≤ 57) ∧ p' = p + 2 ∧ n = 10 * (c p - 48) + (wt_sg c L (p + 1) - 48)) ∨ (¬ (48 ≤ wt_sg c L (p + 1) ∧ wt_sg c L (p + 1) ≤ 57) ∧ p' = p + 1 ∧ n = c p - 48))
theorem wt_num0 {Tm X : sw_T} {c : Int → Int} {L a w r : Int} {rd : Int → Int} (t : wt_tx Tm c L) (h : wt_S Tm a w r rd X) (ha : 0 ≤ a ∧ a ≤ L) (hw : w = 0 ∨ w = 1) (hy : w = 0 ∨ ¬ (49 ≤ wt_sg c L a ∧ wt_sg c L a ≤ 57)) : ∃ v X', w137 X = some (v, X') ∧ wt_S Tm a 0 r rd X' := by
  obtain ⟨X', e, s⟩ := wt_dig0 t h ha ⟨wb_rgd (by decide), wb_rgd (by decide)⟩ hw hy
  refine ⟨wt_sg c L a - 48, X', ?_, s⟩
  unfold w137
  rw [e, Option.bind_some, show (wt_sg c L a - 48, X').2 221 11 = 0 from s.2.1, wb_r1 (by decide), Option.bind_some, if_pos rfl]
theorem wt_num1 {Tm X : sw_T} {c : Int → Int} {L a r : Int} {rd : Int → Int} (t : wt_tx Tm c L) (h : wt_S Tm a 1 r rd X) (ha : 0 ≤ a ∧ a ≤ L) (hy : 49 ≤ wt_sg c L a ∧ wt_sg c L a ≤ 57) : ∃ v X' a', w137 X = some (v, X') ∧ wt_S Tm a' 1 r rd X' ∧ wt_nb c L a a' v := by
  obtain ⟨X1, e, s⟩ := wt_dig1 t h ha ⟨wb_rgd (by decide), wb_rgd (by decide)⟩ hy
  obtain ⟨g1, g2⟩ := (wt_sg_ok t ha.1).2 (by omega)
  have hsg := (wt_sg_ok t (a := a + 1) (by omega)).1
  unfold w137
  rw [e, Option.bind_some, show (wt_sg c L a - 48, X1).2 221 11 = 1 from s.2.1, wb_r1 (by decide), Option.bind_some, if_neg (by decide), show w135 (wt_sg c L a - 48, X1).2 = some (wt_sg c L (a + 1)) from wt_sign t s ⟨by omega, by omega⟩, Option.bind_some]
  by_cases hd : 48 ≤ wt_sg c L (a + 1) ∧ wt_sg c L (a + 1) ≤ 57
  · obtain ⟨X2, e2, s2⟩ := wt_dig1 t s ⟨by omega, by omega⟩ ⟨wb_rgd (by decide), wb_rgd (by decide)⟩ hd
    refine ⟨_, X2, _, ?_, s2, g1, by rw [← g2]; exact hy, .inl ⟨hd, by omega, rfl⟩⟩
    rw [wb_w96y (wb_rgd (by decide)) (wb_rgd (by decide)) hd, Option.bind_some, wb_r1 (by decide), Option.bind_some, if_neg (by decide), e2, Option.bind_some, g2]
  · refine ⟨_, X1, _, ?_, s, g1, by rw [← g2]; exact hy, .inr ⟨hd, rfl, rfl⟩⟩
    rw [wb_w96n ⟨by omega, by omega⟩ (wb_rgd (by decide)) (wb_rgd (by decide)) hd, Option.bind_some, wb_r1 (by decide), Option.bind_some, if_pos rfl, g2]
/-! the order's last number -/
theorem wt_151v1 {Tm X : sw_T} {c : Int → Int} {L a r l : Int} {rd : Int → Int} (t : wt_tx Tm c L) (h : wt_S Tm a 1 r rd X) (ha : 0 ≤ a ∧ a ≤ L) (hl : 0 ≤ l ∧ l + 2 < 100) (hy : 49 ≤ wt_sg c L a ∧ wt_sg c L a ≤ 57) : ∃ X', w138_151 X l 118 = some X' ∧ wt_S Tm (a + 1) 1 (r + 1) (sw_ui rd (l + 2) (wt_sg c L a - 48)) X' := by
  obtain ⟨X1, e1, s1⟩ := wt_dig1 t h ha ⟨wb_rgd (by decide), wb_rgd (by decide)⟩ hy
  obtain ⟨X2, e2, s2⟩ := wt_pd (k := l + 2) (v := wt_sg c L a - 48) s1 ⟨by omega, hl.2⟩
  obtain ⟨X3, e3, s3⟩ := wt_pr (v := X2 221 13 + 1) s2
  refine ⟨X3, ?_, by rw [s2.2.2.1] at s3; exact s3⟩
  unfold w138_151
  rw [wb_r2 (by decide) (by decide), Option.bind_some, if_pos rfl, e1, Option.bind_some, e2, Option.bind_some, s2.2.1, wb_r1 (by decide), Option.bind_some, if_neg (by decide), e3, Option.bind_some]
theorem wt_151v0 {Tm X : sw_T} {c : Int → Int} {L a w r l : Int} {rd : Int → Int} (t : wt_tx Tm c L) (h : wt_S Tm a w r rd X) (ha : 0 ≤ a ∧ a ≤ L) (hl : 0 ≤ l ∧ l + 2 < 100) (hw : w = 0 ∨ w = 1) (hy : w = 0 ∨ ¬ (49 ≤ wt_sg c L a ∧ wt_sg c L a ≤ 57)) : ∃ X' v, w138_151 X l 118 = some X' ∧ wt_S Tm a 0 r (sw_ui rd (l + 2) v) X' := by
  obtain ⟨X1, e1, s1⟩ := wt_dig0 t h ha ⟨wb_rgd (by decide), wb_rgd (by decide)⟩ hw hy
  obtain ⟨X2, e2, s2⟩ := wt_pd (k := l + 2) (v := wt_sg c L a - 48) s1 ⟨by omega, hl.2⟩
  obtain ⟨X3, e3, s3⟩ := wt_pr (v := X2 221 13 + 0) s2
  refine ⟨X3, _, ?_, by rw [s2.2.2.1, Int.add_zero] at s3; exact s3⟩
  unfold w138_151
  rw [wb_r2 (by decide) (by decide), Option.bind_some, if_pos rfl, e1, Option.bind_some, e2, Option.bind_some, s2.2.1, wb_r1 (by decide), Option.bind_some, if_pos rfl, e3, Option.bind_some]
theorem wt_151w {Tm X : sw_T} {a w r l : Int} {rd : Int → Int} (h : wt_S Tm a w r rd X) (hl : 0 ≤ l ∧ l + 2 < 100) (hw : w = 0 ∨ w = 1) : ∃ X', w138_151 X l 119 = some X' ∧ wt_S Tm a w (r + w) (sw_ui rd (l + 2) 0) X' := by
  obtain ⟨X2, e2, s2⟩ := wt_pd (k := l + 2) (v := 0) h ⟨by omega, hl.2⟩
  obtain ⟨X3, e3, s3⟩ := wt_pr (v := X2 221 13 + w) s2
  refine ⟨X3, ?_, by rw [s2.2.2.1] at s3; exact s3⟩
  unfold w138_151
  rw [wb_r2 (by decide) (by decide), Option.bind_some, if_neg (by decide), wb_r2 (by decide) (by decide), Option.bind_some, if_pos rfl, e2, Option.bind_some, s2.2.1, wb_r1 ⟨by omega, by omega⟩, Option.bind_some]
  rcases hw with rfl | rfl
  · rw [if_pos rfl, e3, Option.bind_some]
  · rw [if_neg (by decide), e3, Option.bind_some]
theorem wt_151n1 {Tm X : sw_T} {c : Int → Int} {L a r l x : Int} {rd : Int → Int} (t : wt_tx Tm c L) (h : wt_S Tm a 1 r rd X) (ha : 0 ≤ a ∧ a ≤ L) (hl : 0 ≤ l ∧ l + 2 < 100) (hx : wb_rg x ∧ x ≠ 118 ∧ x ≠ 119) (hy : 49 ≤ wt_sg c L a ∧ wt_sg c L a ≤ 57) : ∃ X' a' v, w138_151 X l x = some X' ∧ wt_S Tm a' 1 (r + 1) (sw_ui rd (l + 2) v) X' ∧ wt_nb c L a a' v := by
  obtain ⟨v, X1, a', e1, s1, hv⟩ := wt_num1 t h ha hy
  obtain ⟨X2, e2, s2⟩ := wt_pd (k := l + 2) (v := v) s1 ⟨by omega, hl.2⟩
  obtain ⟨X3, e3, s3⟩ := wt_pr (v := X2 221 13 + 1) s2
  refine ⟨X3, a', v, ?_, by rw [s2.2.2.1] at s3; exact s3, hv⟩
  unfold w138_151
  rw [wb_r2 hx.1 (by decide), Option.bind_some, if_neg hx.2.1, wb_r2 hx.1 (by decide), Option.bind_some, if_neg hx.2.2, e1, Option.bind_some, e2, Option.bind_some, s2.2.1, wb_r1 (by decide), Option.bind_some, if_neg (by decide), e3, Option.bind_some]
theorem wt_151n0 {Tm X : sw_T} {c : Int → Int} {L a w r l x : Int} {rd : Int → Int} (t : wt_tx Tm c L) (h : wt_S Tm a w r rd X) (ha : 0 ≤ a ∧ a ≤ L) (hl : 0 ≤ l ∧ l + 2 < 100) (hx : wb_rg x ∧ x ≠ 118 ∧ x ≠ 119) (hw : w = 0 ∨ w = 1) (hy : w = 0 ∨ ¬ (49 ≤ wt_sg c L a ∧ wt_sg c L a ≤ 57)) : ∃ X' v, w138_151 X l x = some X' ∧ wt_S Tm a 0 r (sw_ui rd (l + 2) v) X' := by
  obtain ⟨v, X1, e1, s1⟩ := wt_num0 t h ha hw hy
  obtain ⟨X2, e2, s2⟩ := wt_pd (k := l + 2) (v := v) s1 ⟨by omega, hl.2⟩
  obtain ⟨X3, e3, s3⟩ := wt_pr (v := X2 221 13 + 0) s2
  refine ⟨X3, v, ?_, by rw [s2.2.2.1, Int.add_zero] at s3; exact s3⟩
  unfold w138_151
  rw [wb_r2 hx.1 (by decide), Option.bind_some, if_neg hx.2.1, wb_r2 hx.1 (by decide), Option.bind_some, if_neg hx.2.2, e1, Option.bind_some, e2, Option.bind_some, s2.2.1, wb_r1 (by decide), Option.bind_some, if_pos rfl, e3, Option.bind_some]
theorem wt_151_0 {Tm X : sw_T} {c : Int → Int} {L a r l x : Int} {rd : Int → Int} (t : wt_tx Tm c L) (h : wt_S Tm a 0 r rd X) (ha : 0 ≤ a ∧ a ≤ L) (hl : 0 ≤ l ∧ l + 2 < 100) (hx : wb_rg x) : ∃ X' v, w138_151 X l x = some X' ∧ wt_S Tm a 0 r (sw_ui rd (l + 2) v) X' := by
  by_cases h1 : x = 118
  · subst h1
    exact wt_151v0 t h ha hl (.inl rfl) (.inl rfl)
  · by_cases h2 : x = 119
    · subst h2
      obtain ⟨X', e, s⟩ := wt_151w h hl (.inl rfl)
      rw [Int.add_zero] at s
      exact ⟨X', 0, e, s⟩
    · exact wt_151n0 t h ha hl ⟨hx, h1, h2⟩ (.inl rfl) (.inl rfl)
theorem wt_98n {Tm X : sw_T} {a w r l x v : Int} {rd : Int → Int} (h : wt_S Tm a w r rd X) (hl : 0 ≤ l ∧ l + 2 < 100) (hx : wb_rg x ∧ x ≠ 108) : ∃ X', w138_98 X l x (l + 1) v = w138_151 X' l x ∧ wt_S Tm a w r (sw_ui rd (l + 1) v) X' := by
  obtain ⟨X1, e1, s1⟩ := wt_pd (k := l + 1) (v := v) h ⟨by omega, by omega⟩
  refine ⟨X1, ?_, s1⟩
  unfold w138_98
  rw [e1, Option.bind_some, wb_r2 hx.1 (by decide), Option.bind_some, if_neg hx.2]
theorem wt_127 {Tm X : sw_T} {a w r l x s : Int} {rd : Int → Int} (h : wt_S Tm a w r rd X) (hs : s = 0 ∨ s = 1) : ∃ X', w138_127 X l x s = w138_151 X' l x ∧ wt_S Tm (a + s) s r rd X' := by
  obtain ⟨X1, e1, s1⟩ := wt_pw h hs
  obtain ⟨X2, e2, s2⟩ := wt_pa (v := a + s) s1
  refine ⟨X2, ?_, s2⟩
  unfold w138_127
  rw [e1, Option.bind_some, s1.2.1, wb_r1 ⟨by omega, by omega⟩, Option.bind_some, s1.1]
  unfold w138_147
  rcases hs with rfl | rfl
  · rw [if_pos rfl, e2, Option.bind_some]
  · rw [if_neg (by decide), e2, Option.bind_some]
theorem wt_98l1 {Tm X : sw_T} {c : Int → Int} {L a r l v : Int} {rd : Int → Int} (t : wt_tx Tm c L) (h : wt_S Tm a 1 r rd X) (ha : 0 ≤ a ∧ a ≤ L) (hl : 0 ≤ l ∧ l + 2 < 100) (hy : wt_sg c L a = 46) : ∃ X', w138_98 X l 108 (l + 1) v = w138_151 X' l 108 ∧ wt_S Tm (a + 1) 1 r (sw_ui rd (l + 1) v) X' := by
  obtain ⟨X1, e1, s1⟩ := wt_pd (k := l + 1) (v := v) h ⟨by omega, by omega⟩
  obtain ⟨X2, e2, s2⟩ := wt_127 (l := l) (x := 108) s1 (.inr rfl)
  refine ⟨X2, ?_, s2⟩
  unfold w138_98
  rw [e1, Option.bind_some, wb_r2 (by decide) (by decide), Option.bind_some, if_pos rfl, s1.2.1, wb_r1 (by decide), Option.bind_some, if_neg (by decide), wt_sign t s1 ha, Option.bind_some, hy, wb_r2 (by decide) (by decide), Option.bind_some, if_pos rfl, e2]
theorem wt_98l0 {Tm X : sw_T} {c : Int → Int} {L a w r l v : Int} {rd : Int → Int} (t : wt_tx Tm c L) (h : wt_S Tm a w r rd X) (ha : 0 ≤ a ∧ a ≤ L) (hl : 0 ≤ l ∧ l + 2 < 100) (hw : w = 0 ∨ w = 1) (hy : w = 0 ∨ wt_sg c L a ≠ 46) : ∃ X', w138_98 X l 108 (l + 1) v = w138_151 X' l 108 ∧ wt_S Tm a 0 r (sw_ui rd (l + 1) v) X' := by
  obtain ⟨X1, e1, s1⟩ := wt_pd (k := l + 1) (v := v) h ⟨by omega, by omega⟩
  obtain ⟨X2, e2, s2⟩ := wt_127 (l := l) (x := 108) s1 (.inl rfl)
  rw [Int.add_zero] at s2
  have hsg := (wt_sg_ok t ha.1).1
  refine ⟨X2, ?_, s2⟩
  unfold w138_98 w138_126
  rw [e1, Option.bind_some, wb_r2 (by decide) (by decide), Option.bind_some, if_pos rfl, s1.2.1, wb_r1 ⟨by omega, by omega⟩, Option.bind_some]
  by_cases h0 : w = 0
  · rw [if_pos h0, e2]
  · have hy2 : wt_sg c L a ≠ 46 := by
      rcases hy with g | g
      · exact absurd g h0
      · exact g
    rw [if_neg h0, wt_sign t s1 ha, Option.bind_some, wb_r2 ⟨by omega, by omega⟩ (by decide), Option.bind_some, if_neg hy2, e2]
theorem wt_98_0 {Tm X : sw_T} {c : Int → Int} {L a r l x v : Int} {rd : Int → Int} (t : wt_tx Tm c L) (h : wt_S Tm a 0 r rd X) (ha : 0 ≤ a ∧ a ≤ L) (hl : 0 ≤ l ∧ l + 2 < 100) (hx : wb_rg x) : ∃ X' rd', w138_98 X l x (l + 1) v = some X' ∧ wt_S Tm a 0 r rd' X' ∧ ∀ i, i < l → rd' i = rd i := by
  have key : ∃ X1, w138_98 X l x (l + 1) v = w138_151 X1 l x ∧ wt_S Tm a 0 r (sw_ui rd (l + 1) v) X1 := by
    by_cases h1 : x = 108
    · subst h1
      exact wt_98l0 t h ha hl (.inl rfl) (.inl rfl)
    · exact wt_98n h hl ⟨hx, h1⟩
  obtain ⟨X1, e1, s1⟩ := key
  obtain ⟨X2, u, e2, s2⟩ := wt_151_0 t s1 ha hl hx
  refine ⟨X2, _, by rw [e1, e2], s2, fun i hi => ?_⟩
  unfold sw_ui
  rw [if_neg (by omega), if_neg (by omega)]
theorem wt_42 {Tm X : sw_T} {a w r l x s : Int} {rd : Int → Int} (h : wt_S Tm a w r rd X) (hs : s = 0 ∨ s = 1) (hl : 0 ≤ l ∧ l + 2 < 100) (hx : wb_rg x) : ∃ X', wt_S Tm (a + s) s r (sw_ui rd l x) X' ∧ w138_42 X l x s = if x = 109 then w138_98 X' l x (l + 1) 0 else (w136 X' 48 53).bind fun r64 => w138_98 r64.2 l x (l + 1) r64.1 := by
  obtain ⟨X1, e1, s1⟩ := wt_pw h hs
  obtain ⟨X2, e2, s2⟩ := wt_pa (v := a + s) s1
  obtain ⟨X3, e3, s3⟩ := wt_pd (k := l) (v := x) s2 ⟨hl.1, by omega⟩
  refine ⟨X3, s3, ?_⟩
  unfold w138_42
  rw [e1, Option.bind_some, s1.2.1, wb_r1 ⟨by omega, by omega⟩, Option.bind_some, s1.1]
  unfold w138_62
  rcases hs with rfl | rfl
  · rw [if_pos rfl, e2, Option.bind_some, e3, Option.bind_some, wb_r2 hx (by decide), Option.bind_some]
  · rw [if_neg (by decide), e2, Option.bind_some, e3, Option.bind_some, wb_r2 hx (by decide), Option.bind_some]
