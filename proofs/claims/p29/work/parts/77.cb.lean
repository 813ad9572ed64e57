/-! ===== the law's own calls of the class ===== -/
theorem wb_h169 {T T2 : sw_T} {p : Int} {v : Int} (h : w59 T p = some (.inl (v, T2))) (hv : wb_rg v) : w169 T p = some (0, sw_up T2 228 0 v) := by
  unfold w169
  rw [h, Option.bind_some, wb_eli, wb_r1 hv, Option.bind_some, wb_st (by decide), Option.bind_some]
theorem wb_t169_0 {T : sw_T} {p : Int} (h : w59 T p = some (.inr 0)) : w169 T p = some (1, T) := by
  unfold w169
  rw [h, Option.bind_some, wb_elr]
  rfl
theorem wb_t169_1 {T : sw_T} {p : Int} (h : w59 T p = some (.inr 1)) : w169 T p = some (2, T) := by
  unfold w169
  rw [h, Option.bind_some, wb_elr]
  rfl
theorem wb_h170 {T T2 : sw_T} {p q : Int} {v : Int} (h : w60 T p q = some (.inl (v, T2))) (hv : wb_rg v) : w170 T p q = some (0, sw_up T2 228 0 v) := by
  unfold w170
  rw [h, Option.bind_some, wb_eli, wb_r1 hv, Option.bind_some, wb_st (by decide), Option.bind_some]
theorem wb_t170_0 {T : sw_T} {p q : Int} (h : w60 T p q = some (.inr 0)) : w170 T p q = some (2, T) := by
  unfold w170
  rw [h, Option.bind_some, wb_elr]
  rfl
theorem wb_t170_2 {T : sw_T} {p q : Int} (h : w60 T p q = some (.inr 2)) : w170 T p q = some (1, T) := by
  unfold w170
  rw [h, Option.bind_some, wb_elr]
  rfl
theorem wb_h171 {T T2 : sw_T} {p q : Int} {v : Int} (h : w61 T p q = some (.inl (v, T2))) (hv : wb_rg v) : w171 T p q = some (0, sw_up T2 228 0 v) := by
  unfold w171
  rw [h, Option.bind_some, wb_eli, wb_r1 hv, Option.bind_some, wb_st (by decide), Option.bind_some]
theorem wb_t171_0 {T : sw_T} {p q : Int} (h : w61 T p q = some (.inr 0)) : w171 T p q = some (2, T) := by
  unfold w171
  rw [h, Option.bind_some, wb_elr]
  rfl
theorem wb_t171_1 {T : sw_T} {p q : Int} (h : w61 T p q = some (.inr 1)) : w171 T p q = some (3, T) := by
  unfold w171
  rw [h, Option.bind_some, wb_elr]
  rfl
theorem wb_t171_2 {T : sw_T} {p q : Int} (h : w61 T p q = some (.inr 2)) : w171 T p q = some (1, T) := by
  unfold w171
  rw [h, Option.bind_some, wb_elr]
  rfl
theorem wb_h172 {T T2 : sw_T} {p : Int} {v : Int} (h : w62 T p = some (.inl (v, T2))) (hv : wb_rg v) : w172 T p = some (0, sw_up T2 228 0 v) := by
  unfold w172
  rw [h, Option.bind_some, wb_eli, wb_r1 hv, Option.bind_some, wb_st (by decide), Option.bind_some]
theorem wb_t172_2 {T : sw_T} {p : Int} (h : w62 T p = some (.inr 2)) : w172 T p = some (1, T) := by
  unfold w172
  rw [h, Option.bind_some, wb_elr]
  rfl
theorem wb_h173 {T T2 : sw_T} {p : Int} {v : Int} (h : w63 T p = some (.inl (v, T2))) (hv : wb_rg v) : w173 T p = some (0, sw_up T2 228 0 v) := by
  unfold w173
  rw [h, Option.bind_some, wb_eli, wb_r1 hv, Option.bind_some, wb_st (by decide), Option.bind_some]
theorem wb_t173_0 {T : sw_T} {p : Int} (h : w63 T p = some (.inr 0)) : w173 T p = some (1, T) := by
  unfold w173
  rw [h, Option.bind_some, wb_elr]
  rfl
theorem wb_h174 {T T2 : sw_T} {p q : Int} {v : Int} (h : w64 T p q = some (.inl (v, T2))) (hv : wb_rg v) : w174 T p q = some (0, sw_up T2 228 0 v) := by
  unfold w174
  rw [h, Option.bind_some, wb_eli, wb_r1 hv, Option.bind_some, wb_st (by decide), Option.bind_some]
theorem wb_t174_0 {T : sw_T} {p q : Int} (h : w64 T p q = some (.inr 0)) : w174 T p q = some (2, T) := by
  unfold w174
  rw [h, Option.bind_some, wb_elr]
  rfl
theorem wb_t174_2 {T : sw_T} {p q : Int} (h : w64 T p q = some (.inr 2)) : w174 T p q = some (1, T) := by
  unfold w174
  rw [h, Option.bind_some, wb_elr]
  rfl
theorem wb_h175 {T T2 : sw_T} {p : Int} {v : Int} (h : w65 T p = some (.inl (v, T2))) (hv : wb_rg v) : w175 T p = some (0, sw_up T2 228 0 v) := by
  unfold w175
  rw [h, Option.bind_some, wb_eli, wb_r1 hv, Option.bind_some, wb_st (by decide), Option.bind_some]
theorem wb_t175_0 {T : sw_T} {p : Int} (h : w65 T p = some (.inr 0)) : w175 T p = some (1, T) := by
  unfold w175
  rw [h, Option.bind_some, wb_elr]
  rfl
theorem wb_t175_1 {T : sw_T} {p : Int} (h : w65 T p = some (.inr 1)) : w175 T p = some (2, T) := by
  unfold w175
  rw [h, Option.bind_some, wb_elr]
  rfl
theorem wb_h176 {T T2 : sw_T} {v : Int} (h : w68 T = some (.inl (v, T2))) (hv : wb_rg v) : w176 T = some (0, sw_up T2 228 0 v) := by
  unfold w176
  rw [h, Option.bind_some, wb_eli, wb_r1 hv, Option.bind_some, wb_st (by decide), Option.bind_some]
theorem wb_t176_0 {T : sw_T} (h : w68 T = some (.inr 0)) : w176 T = some (1, T) := by
  unfold w176
  rw [h, Option.bind_some, wb_elr]
  rfl
theorem wb_h177 {T T2 : sw_T} {v : Int} (h : w70 T = some (.inl (v, T2))) (hv : wb_rg v) : w177 T = some (0, sw_up T2 228 0 v) := by
  unfold w177
  rw [h, Option.bind_some, wb_eli, wb_r1 hv, Option.bind_some, wb_st (by decide), Option.bind_some]
theorem wb_t177_1 {T : sw_T} (h : w70 T = some (.inr 1)) : w177 T = some (1, T) := by
  unfold w177
  rw [h, Option.bind_some, wb_elr]
  rfl
theorem wb_h178 {T T2 : sw_T} {v : Int} (h : w71 T = some (.inl (v, T2))) (hv : wb_rg v) : w178 T = some (0, sw_up T2 228 0 v) := by
  unfold w178
  rw [h, Option.bind_some, wb_eli, wb_r1 hv, Option.bind_some, wb_st (by decide), Option.bind_some]
theorem wb_t178_1 {T : sw_T} (h : w71 T = some (.inr 1)) : w178 T = some (1, T) := by
  unfold w178
  rw [h, Option.bind_some, wb_elr]
  rfl
theorem wb_h185 {T T2 : sw_T} {p : Int} {v : Int} (h : w80 T p = some (.inl (v, T2))) (hv : wb_rg v) : w185 T p = some (0, sw_up T2 228 0 v) := by
  unfold w185
  rw [h, Option.bind_some, wb_eli, wb_r1 hv, Option.bind_some, wb_st (by decide), Option.bind_some]
theorem wb_t185_0 {T : sw_T} {p : Int} (h : w80 T p = some (.inr 0)) : w185 T p = some (1, T) := by
  unfold w185
  rw [h, Option.bind_some, wb_elr]
  rfl
theorem wb_h186 {T T2 : sw_T} {p q : Int} {v : Int} (h : w81 T p q = some (.inl (v, T2))) (hv : wb_rg v) : w186 T p q = some (0, sw_up T2 228 0 v) := by
  unfold w186
  rw [h, Option.bind_some, wb_eli, wb_r1 hv, Option.bind_some, wb_st (by decide), Option.bind_some]
theorem wb_t186_0 {T : sw_T} {p q : Int} (h : w81 T p q = some (.inr 0)) : w186 T p q = some (1, T) := by
  unfold w186
  rw [h, Option.bind_some, wb_elr]
  rfl
theorem wb_h179 {T : sw_T} {p q : Int} {v : Int} (h : w72 T p q = some (.inl v)) (hv : wb_rg v) : w179 T p q = some (0, sw_up T 228 0 v) := by
  unfold w179
  rw [h, Option.bind_some, wb_eli, wb_r1 hv, Option.bind_some, wb_st (by decide), Option.bind_some]
theorem wb_t179_0 {T : sw_T} {p q : Int} (h : w72 T p q = some (.inr 0)) : w179 T p q = some (2, T) := by
  unfold w179
  rw [h, Option.bind_some, wb_elr]
  rfl
theorem wb_t179_2 {T : sw_T} {p q : Int} (h : w72 T p q = some (.inr 2)) : w179 T p q = some (1, T) := by
  unfold w179
  rw [h, Option.bind_some, wb_elr]
  rfl
theorem wb_h180 {T : sw_T} {p q : Int} {v : Int} (h : w73 T p q = some (.inl v)) (hv : wb_rg v) : w180 T p q = some (0, sw_up T 228 0 v) := by
  unfold w180
  rw [h, Option.bind_some, wb_eli, wb_r1 hv, Option.bind_some, wb_st (by decide), Option.bind_some]
theorem wb_t180_0 {T : sw_T} {p q : Int} (h : w73 T p q = some (.inr 0)) : w180 T p q = some (2, T) := by
  unfold w180
  rw [h, Option.bind_some, wb_elr]
  rfl
theorem wb_t180_2 {T : sw_T} {p q : Int} (h : w73 T p q = some (.inr 2)) : w180 T p q = some (1, T) := by
  unfold w180
  rw [h, Option.bind_some, wb_elr]
  rfl
theorem wb_h181 {T : sw_T} {p q : Int} {v : Int} (h : w74 T p q = some (.inl v)) (hv : wb_rg v) : w181 T p q = some (0, sw_up T 228 0 v) := by
  unfold w181
  rw [h, Option.bind_some, wb_eli, wb_r1 hv, Option.bind_some, wb_st (by decide), Option.bind_some]
theorem wb_t181_0 {T : sw_T} {p q : Int} (h : w74 T p q = some (.inr 0)) : w181 T p q = some (2, T) := by
  unfold w181
  rw [h, Option.bind_some, wb_elr]
  rfl
theorem wb_t181_2 {T : sw_T} {p q : Int} (h : w74 T p q = some (.inr 2)) : w181 T p q = some (1, T) := by
  unfold w181
  rw [h, Option.bind_some, wb_elr]
  rfl
theorem wb_h182 {T : sw_T} {p : Int} {v : Int} (h : w75 T p = some (.inl v)) (hv : wb_rg v) : w182 T p = some (0, sw_up T 228 0 v) := by
  unfold w182
  rw [h, Option.bind_some, wb_eli, wb_r1 hv, Option.bind_some, wb_st (by decide), Option.bind_some]
theorem wb_t182_0 {T : sw_T} {p : Int} (h : w75 T p = some (.inr 0)) : w182 T p = some (1, T) := by
  unfold w182
  rw [h, Option.bind_some, wb_elr]
  rfl
theorem wb_h183 {T : sw_T} {p : Int} {v : Int} (h : w76 T p = some (.inl v)) (hv : wb_rg v) : w183 T p = some (0, sw_up T 228 0 v) := by
  unfold w183
  rw [h, Option.bind_some, wb_eli, wb_r1 hv, Option.bind_some, wb_st (by decide), Option.bind_some]
theorem wb_t183_2 {T : sw_T} {p : Int} (h : w76 T p = some (.inr 2)) : w183 T p = some (1, T) := by
  unfold w183
  rw [h, Option.bind_some, wb_elr]
  rfl
theorem wb_h184 {T : sw_T} {p : Int} {v : Int} (h : w77 T p = some (.inl v)) (hv : wb_rg v) : w184 T p = some (0, sw_up T 228 0 v) := by
  unfold w184
  rw [h, Option.bind_some, wb_eli, wb_r1 hv, Option.bind_some, wb_st (by decide), Option.bind_some]
theorem wb_t184_2 {T : sw_T} {p : Int} (h : w77 T p = some (.inr 2)) : w184 T p = some (1, T) := by
  unfold w184
  rw [h, Option.bind_some, wb_elr]
  rfl
