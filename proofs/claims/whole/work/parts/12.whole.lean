/-! ===== the library methods that give the bits of a double and of a float; then the machine whole ===== -/
def sp_jdL : List Cond := [Cond.code yJxe99ae_doubleToLongBits_ccdee cJxe99ae_doubleToLongBits_ccdee 2 (some .long), Cond.code yJxe99ae_isNaN_b9ae7 cJxe99ae_isNaN_b9ae7 2 (some .boolean), Cond.methodLink "java/lang/Double" 122 yJxe99ae_isNaN_b9ae7, Cond.methodLink "java/lang/Double" 134 ⟨"java/lang/Double", "doubleToRawLongBits", "(D)J"⟩, Cond.static yJxe99ae_isNaN_b9ae7, Cond.static ⟨"java/lang/Double", "doubleToRawLongBits", "(D)J"⟩, Cond.native ⟨"java/lang/Double", "doubleToRawLongBits", "(D)J"⟩, Cond.initialized "java/lang/Double", Cond.static yJxe99ae_doubleToLongBits_ccdee, Cond.methodLink RX6 216 yJxe99ae_doubleToLongBits_ccdee, Cond.code yJxf58ca_floatToIntBits_5c35a cJxf58ca_floatToIntBits_5c35a 1 (some .int), Cond.code yJxf58ca_isNaN_12338 cJxf58ca_isNaN_12338 1 (some .boolean), Cond.methodLink "java/lang/Float" 59 yJxf58ca_isNaN_12338, Cond.methodLink "java/lang/Float" 74 ⟨"java/lang/Float", "floatToRawIntBits", "(F)I"⟩, Cond.static yJxf58ca_isNaN_12338, Cond.static ⟨"java/lang/Float", "floatToRawIntBits", "(F)I"⟩, Cond.native ⟨"java/lang/Float", "floatToRawIntBits", "(F)I"⟩, Cond.initialized "java/lang/Float", Cond.static yJxf58ca_floatToIntBits_5c35a, Cond.methodLink RX6 222 yJxf58ca_floatToIntBits_5c35a]
set_option maxRecDepth 100000 in
theorem sp_jd_in : ∀ w ∈ sp_jdL, w ∈ sp_AW := sp_pick _ [1137, 1140, 1138, 1141, 1139, 1142, 1143, 77, 1136, 1135, 1147, 1150, 1148, 1151, 1149, 1152, 1153, 78, 1146, 1145] (by decide +kernel) (by decide +kernel)
theorem sp_jw (k : Nat) {w : Cond} (h : sp_jdL[k]? = some w) : w ∈ sp_AW := sp_jd_in w (List.mem_of_getElem? h)
theorem sx_ofWF {l : Launch} {y : MethodName} {ws ws' : List Cond} {rm : Room} {Pc : Array Value → State → Prop} {Qc : Array Value → State → Outcome → State → Prop} {mc ms : Nat} {free : Addr → Prop} {cc : ByteArray} {maxL : Nat} {ret : Option FieldType}
    (hy : plainFor y = true) (hw : ws = Cond.code y cc maxL ret :: ws')
    (body : ∀ p e s m args below meth c s₁, BodyLoose p l y (headSpec ws rm) cc maxL ret e s m args below meth c s₁ → c.maxLocals = maxL → Pc args s →
      W p l e (headSpec ws rm).room s m args below meth c s.heap [] 0 0 (MQ below Qc args s mc ms free) (entryFrame m args maxL)) : Met l y ws rm Pc Qc mc ms free := by
  refine MetFree.of_bodySF (code := cc) (maxLocals := maxL) (ret := ret) hy ?_ ?_
  · intro args s m h hn
    obtain ⟨meth, c, h1, h2, h3, h4, h5, h6, -, -⟩ := Cond.code_spec hn (atoms_spec (ws := ws) h _ (by rw [hw]; exact List.mem_cons_self))
    exact ⟨meth, c, h1, h2, h3, h4, h5, h6⟩
  · intro p e s m args below meth c s₁ B hml hP _
    have hh0 : s₁.heap = s.heap := by rw [B.state]; rfl
    obtain ⟨t, a1, o, b1, b2, b3⟩ := body p e s m args below meth c s₁ B hml hP s₁ hh0 (Stand.of_body B)
    exact ⟨t, o, a1, b1, b2, ⟨b3.1, b3.2⟩⟩
set_option maxHeartbeats 1000000 in
theorem sp_m_dn (l : Launch) (x : UInt64) (h0 : Op.cmpValue (FP.dcmp x x) CmpOp.l = 0) : Met l yJxe99ae_isNaN_b9ae7 (Cond.code yJxe99ae_isNaN_b9ae7 cJxe99ae_isNaN_b9ae7 2 (some .boolean) :: sp_AW) ({ frames := 0, cells := 0, slots := 0, locals := 0 }) (va_Pc [.double x] (fun _ => True)) (va_Qi (fun r (_ : Unit) => r = 0) (fun _ _ => True) (fun _ => False)) 0 0 (fun _ => False) := by
  refine sx_ofWF (cc := cJxe99ae_isNaN_b9ae7) (maxL := 2) (ret := some .boolean) (by decide +kernel) rfl ?_
  intro p e s m args below meth c s₁ B hml hv
  obtain ⟨rfl, -⟩ := hv
  have hx := B.exec
  have hb := B.bytes
  have hr := B.returns
  have hlocks := B.notSynchronized
  have hl := lv_entry ([.double x]) (n := 2) (Nat.le_of_ble_eq_true rfl)
  rw [lg_entry_eq]
  generalize (lg_sl ([.double x]) ++ List.replicate (2 - (lg_sl ([.double x])).length) Slot.unset).toArray = ls at hl ⊢
  have hl : lv_has ls 2 [(0, .double x)] := hl
  refine lv_dload_n (k := 0) hx hb (by decide +kernel) rfl (lv_at hl 0 rfl) ?_
  refine lv_dload_n (k := 0) hx hb (by decide +kernel) rfl (lv_at hl 0 rfl) ?_
  refine lv_dcmp (op := .l) hx hb (by decide +kernel) ?_
  rw [h0]
  refine lv_if_eq (off := 7) (tgt := 10) hx hb (by decide +kernel) (by decide) (fun _ => ?_) (fun q => absurd rfl q)
  refine lv_iconst (n := 0) (v := 0) hx hb (by decide +kernel) (by decide) ?_
  exact W.zret (v := 0) (ty := .boolean) hx hb hr (by decide) (fun t ht hW => ⟨⟨0, (), rfl, rfl, trivial⟩, (va_S.rf (A := fun _ => False) (H0 := s.heap)).F ht⟩) (fun q hq => absurd hq List.not_mem_nil) (by decide +kernel)
set_option maxHeartbeats 1000000 in
theorem sp_m_d (l : Launch) (x : UInt64) (h0 : Op.cmpValue (FP.dcmp x x) CmpOp.l = 0) : Met l yJxe99ae_doubleToLongBits_ccdee (Cond.code yJxe99ae_doubleToLongBits_ccdee cJxe99ae_doubleToLongBits_ccdee 2 (some .long) :: sp_AW) ({ frames := 2, cells := 0, slots := 0, locals := 50 }) (va_Pc [.double x] (fun _ => True)) (va_Ql (fun r (_ : Unit) => r = x.toInt64) (fun _ _ => True) (fun _ => False)) 0 0 (fun _ => False) := by
  refine sx_ofWF (cc := cJxe99ae_doubleToLongBits_ccdee) (maxL := 2) (ret := some .long) (by decide +kernel) rfl ?_
  intro p e s m args below meth c s₁ B hml hv
  obtain ⟨rfl, -⟩ := hv
  have hx := B.exec
  have hb := B.bytes
  have hr := B.returns
  have hts0 := atoms_spec (ws := Cond.code yJxe99ae_doubleToLongBits_ccdee cJxe99ae_doubleToLongBits_ccdee 2 (some .long) :: sp_AW) B.pre
  have hts : ∀ w ∈ sp_AW, w.before _ s = true := fun w h => hts0 w (List.mem_cons_of_mem _ h)
  have hown : s.vm.findClass "java/lang/Double" = some m.cls := findClass_of_methodNamed B.named
  have hlocks := B.notSynchronized
  have hl := lv_entry ([.double x]) (n := 2) (Nat.le_of_ble_eq_true rfl)
  have hS : va_S (fun _ => False) s.heap s.heap [] := va_S.rf
  rw [lg_entry_eq]
  generalize (lg_sl ([.double x]) ++ List.replicate (2 - (lg_sl ([.double x])).length) Slot.unset).toArray = ls at hl ⊢
  have hl : lv_has ls 2 [(0, .double x)] := hl
  refine lv_dload_n (k := 0) hx hb (by decide +kernel) rfl (lv_at hl 0 rfl) ?_
  have d1 : decode cJxe99ae_doubleToLongBits_ccdee 1 = .ok (.invokestatic 122, 3) := by decide +kernel
  refine va_calli (a := [Value.double x].toArray) (va_runS (As := [.double x]) (rest := []) (index := 122) ⟨hx, hb, hml, hown, hts⟩ (sp_m_dn l x h0) (va_cwS 1 hts (sp_goodIn (fun w hw => by
      simp only [va_wsS, List.cons_append, List.nil_append, List.mem_cons] at hw
      rcases hw with rfl | rfl | rfl | rfl | hw
      · exact sp_jw 2 rfl
      · exact sp_jw 4 rfl
      · exact sp_jw 7 rfl
      · exact sp_jw 1 rfl
      · exact hw)) rfl rfl rfl (by decide +kernel) ⟨Nat.le_of_ble_eq_true rfl, Nat.le_of_ble_eq_true rfl⟩) ⟨fun a U g mk q => q, fun U hU hW => ⟨rfl, trivial⟩⟩ rfl rfl hl.1 rfl (lv_room (Nat.le_of_ble_eq_true rfl)) d1 ⟨Nat.le_of_ble_eq_true rfl, Nat.le_of_ble_eq_true rfl⟩) hS (fun q _ h => h.elim) (fun q h => h.elim) (fun r u t H1 locs ht hvm hw hB hz1 hk1 hS => ?_)
  have hw : r = 0 := hw
  subst hw
  refine lv_if_ne (off := 8) (tgt := 12) hx hb (by decide +kernel) (by decide) (fun q => absurd rfl q) (fun _ => ?_)
  refine lv_dload_n (k := 0) hx hb (by decide +kernel) rfl (lv_at hl 0 rfl) ?_
  refine vn_d2l (index := 134) hx hb (hml.trans hl.1.symm) hown (hts _ (sp_jw 3 rfl)) (hts _ (sp_jw 6 rfl)) (hts _ (sp_jw 5 rfl)) (hts _ (sp_jw 7 rfl)) (Nat.le_of_ble_eq_true rfl) (Nat.le_of_ble_eq_true rfl) (by decide +kernel) ?_
  exact W.lret hx hb hr (fun t ht hW => ⟨⟨x.toInt64, (), rfl, rfl, trivial⟩, hS.F ht⟩) hS.2.2 (by decide +kernel)
set_option maxHeartbeats 1000000 in
theorem sp_m_fn (l : Launch) (x : UInt32) (h0 : Op.cmpValue (FP.fcmp x x) CmpOp.l = 0) : Met l yJxf58ca_isNaN_12338 (Cond.code yJxf58ca_isNaN_12338 cJxf58ca_isNaN_12338 1 (some .boolean) :: sp_AW) ({ frames := 0, cells := 0, slots := 0, locals := 0 }) (va_Pc [.float x] (fun _ => True)) (va_Qi (fun r (_ : Unit) => r = 0) (fun _ _ => True) (fun _ => False)) 0 0 (fun _ => False) := by
  refine sx_ofWF (cc := cJxf58ca_isNaN_12338) (maxL := 1) (ret := some .boolean) (by decide +kernel) rfl ?_
  intro p e s m args below meth c s₁ B hml hv
  obtain ⟨rfl, -⟩ := hv
  have hx := B.exec
  have hb := B.bytes
  have hr := B.returns
  have hlocks := B.notSynchronized
  have hl := lv_entry ([.float x]) (n := 1) (Nat.le_of_ble_eq_true rfl)
  rw [lg_entry_eq]
  generalize (lg_sl ([.float x]) ++ List.replicate (1 - (lg_sl ([.float x])).length) Slot.unset).toArray = ls at hl ⊢
  have hl : lv_has ls 1 [(0, .float x)] := hl
  refine lv_fload_n (k := 0) hx hb (by decide +kernel) rfl (lv_at hl 0 rfl) ?_
  refine lv_fload_n (k := 0) hx hb (by decide +kernel) rfl (lv_at hl 0 rfl) ?_
  refine lv_fcmp (op := .l) hx hb (by decide +kernel) ?_
  rw [h0]
  refine lv_if_eq (off := 7) (tgt := 10) hx hb (by decide +kernel) (by decide) (fun _ => ?_) (fun q => absurd rfl q)
  refine lv_iconst (n := 0) (v := 0) hx hb (by decide +kernel) (by decide) ?_
  exact W.zret (v := 0) (ty := .boolean) hx hb hr (by decide) (fun t ht hW => ⟨⟨0, (), rfl, rfl, trivial⟩, (va_S.rf (A := fun _ => False) (H0 := s.heap)).F ht⟩) (fun q hq => absurd hq List.not_mem_nil) (by decide +kernel)
set_option maxHeartbeats 1000000 in
theorem sp_m_f (l : Launch) (x : UInt32) (h0 : Op.cmpValue (FP.fcmp x x) CmpOp.l = 0) : Met l yJxf58ca_floatToIntBits_5c35a (Cond.code yJxf58ca_floatToIntBits_5c35a cJxf58ca_floatToIntBits_5c35a 1 (some .int) :: sp_AW) ({ frames := 2, cells := 0, slots := 0, locals := 50 }) (va_Pc [.float x] (fun _ => True)) (va_Qi (fun r (_ : Unit) => r = x.toInt32) (fun _ _ => True) (fun _ => False)) 0 0 (fun _ => False) := by
  refine sx_ofWF (cc := cJxf58ca_floatToIntBits_5c35a) (maxL := 1) (ret := some .int) (by decide +kernel) rfl ?_
  intro p e s m args below meth c s₁ B hml hv
  obtain ⟨rfl, -⟩ := hv
  have hx := B.exec
  have hb := B.bytes
  have hr := B.returns
  have hts0 := atoms_spec (ws := Cond.code yJxf58ca_floatToIntBits_5c35a cJxf58ca_floatToIntBits_5c35a 1 (some .int) :: sp_AW) B.pre
  have hts : ∀ w ∈ sp_AW, w.before _ s = true := fun w h => hts0 w (List.mem_cons_of_mem _ h)
  have hown : s.vm.findClass "java/lang/Float" = some m.cls := findClass_of_methodNamed B.named
  have hlocks := B.notSynchronized
  have hl := lv_entry ([.float x]) (n := 1) (Nat.le_of_ble_eq_true rfl)
  have hS : va_S (fun _ => False) s.heap s.heap [] := va_S.rf
  rw [lg_entry_eq]
  generalize (lg_sl ([.float x]) ++ List.replicate (1 - (lg_sl ([.float x])).length) Slot.unset).toArray = ls at hl ⊢
  have hl : lv_has ls 1 [(0, .float x)] := hl
  refine lv_fload_n (k := 0) hx hb (by decide +kernel) rfl (lv_at hl 0 rfl) ?_
  have d1 : decode cJxf58ca_floatToIntBits_5c35a 1 = .ok (.invokestatic 59, 3) := by decide +kernel
  refine va_calli (a := [Value.float x].toArray) (va_runS (As := [.float x]) (rest := []) (index := 59) ⟨hx, hb, hml, hown, hts⟩ (sp_m_fn l x h0) (va_cwS 1 hts (sp_goodIn (fun w hw => by
      simp only [va_wsS, List.cons_append, List.nil_append, List.mem_cons] at hw
      rcases hw with rfl | rfl | rfl | rfl | hw
      · exact sp_jw 12 rfl
      · exact sp_jw 14 rfl
      · exact sp_jw 17 rfl
      · exact sp_jw 11 rfl
      · exact hw)) rfl rfl rfl (by decide +kernel) ⟨Nat.le_of_ble_eq_true rfl, Nat.le_of_ble_eq_true rfl⟩) ⟨fun a U g mk q => q, fun U hU hW => ⟨rfl, trivial⟩⟩ rfl rfl hl.1 rfl (lv_room (Nat.le_of_ble_eq_true rfl)) d1 ⟨Nat.le_of_ble_eq_true rfl, Nat.le_of_ble_eq_true rfl⟩) hS (fun q _ h => h.elim) (fun q h => h.elim) (fun r u t H1 locs ht hvm hw hB hz1 hk1 hS => ?_)
  have hw : r = 0 := hw
  subst hw
  refine lv_if_ne (off := 8) (tgt := 12) hx hb (by decide +kernel) (by decide) (fun q => absurd rfl q) (fun _ => ?_)
  refine lv_fload_n (k := 0) hx hb (by decide +kernel) rfl (lv_at hl 0 rfl) ?_
  refine vn_f2i (index := 74) hx hb (hml.trans hl.1.symm) hown (hts _ (sp_jw 13 rfl)) (hts _ (sp_jw 16 rfl)) (hts _ (sp_jw 15 rfl)) (hts _ (sp_jw 17 rfl)) (Nat.le_of_ble_eq_true rfl) (Nat.le_of_ble_eq_true rfl) (by decide +kernel) ?_
  exact W.iret hx hb hr (fun t ht hW => ⟨⟨x.toInt32, (), rfl, rfl, trivial⟩, hS.F ht⟩) hS.2.2 (by decide +kernel)
