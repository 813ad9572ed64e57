/-! ===== soundness, whole ===== -/
section SPG
variable {D : va_G} {dA : Nat → ClassId} {A : Nat → Prop} {G : sp_G} {n : Nat}
variable {p : Program} {l : Launch} {e0 : Env} {R : Room} {s : State} {m : MethodId} {args : Array Value} {below : List Frame} {meth : Method} {c : Code} {H : Heap} {locs : List Loc} {cells slots : Nat} {Q : State → Prop}
theorem sp_covers (q : Nat × Nat × Nat × Nat) (pc : Nat) : covers ⟨q.1, q.2.1, q.2.2.1, q.2.2.2⟩ pc = sp_cov q pc := rfl
theorem sp_hh_all : ∀ e ∈ sp_T, ∀ q ∈ e.2.2.2.2.1, e.2.2.2.2.2.1 = 7 ∧ (sp_fd sp_ctT 7 q.2.2.2).isSome = true ∧ q.2.2.2 ≠ 0 := by decide +kernel
theorem sp_pass {e : sp_E} (he : e ∈ sp_T) {cc : ByteArray} {ini : Bool} (X : sp_cx p s m args meth c cc D dA A G e.2.2.2.2.2.1 ini) {pc : Nat} {E : String} (hE : E ∈ sp_ex) {hh : List (Nat × Nat × Nat × Nat)} (hsub : ∀ q ∈ hh, q ∈ e.2.2.2.2.1) (hno : ∀ q ∈ hh, (sp_cov q pc && decide (sp_fd sp_ctT 7 q.2.2.2 = some E)) = false) :
    ∀ z ∈ tableOf hh, covers z pc = false ∨ (z.catchType ≠ 0 ∧ ∃ nm : String, (Cond.classLink (sp_cls e.2.2.2.2.2.1) z.catchType nm).before args s = true ∧ va_Nc E nm s) := by
  intro z hz
  obtain ⟨q, hq, rfl⟩ := List.mem_map.mp hz
  obtain ⟨h7, hsm, h0⟩ := sp_hh_all e he q (hsub q hq)
  have := hno q hq
  rw [Bool.and_eq_false_iff] at this
  rcases this with h | h
  · exact Or.inl ((sp_covers q pc).trans h)
  · refine Or.inr ⟨h0, ?_⟩
    obtain ⟨nm, hnm⟩ := Option.isSome_iff_exists.mp hsm
    cases hnm
theorem sp_s1_ex {L : sp_L} {k : Nat} {v : Value} (h : k < L.length) : ∃ L2, sp_s1 L k v = some L2 ∧ ∀ (j : Nat) (w : Value), sp_ld (sp_clr L k) j = some w → sp_ld L2 j = some w := by
  refine ⟨(sp_fix L k).set k (some v), by unfold sp_s1; rw [if_pos h], fun j w hw => ?_⟩
  unfold sp_clr at hw
  rw [sp_ld_iff] at hw ⊢
  by_cases hj : j = k
  · subst hj
    rw [List.getElem?_set_self'] at hw
    cases hx : (sp_fix L j)[j]? with
    | none => rw [hx] at hw; simp at hw
    | some o => rw [hx] at hw; simp at hw
  · rw [List.getElem?_set_ne (Ne.symm hj)] at hw ⊢
    exact hw
theorem sp_clr_len (L : sp_L) (k : Nat) : (sp_clr L k).length = L.length := by unfold sp_clr; rw [List.length_set, sp_fix_len]
/-- any call -/
theorem sp_goC (IH : sp_Snd D dA A G n) {y pc len : Nat} {e : sp_E} {st rest as : List Value} {M M1 : sp_M} {r1 : sp_R} {ls : Array Slot} {i : Instr} (hlt : l.stackTraces = false) (X : sp_cx p s m args meth c e.2.1 D dA A G e.2.2.2.2.2.1 (decide (e.2.2.2.2.2.2.2.2.2 = 2))) (hml : c.maxLocals = e.2.2.1) (hfr : e.2.2.2.2.2.2.2.1 ≤ R.frames) (hlo : e.2.2.2.2.2.2.2.2.1 ≤ R.locals) (hS : va_S A s.heap H locs) (hR : sp_rel D dA A M H) (hls : ls.size = e.2.2.1) (hdg : decode e.2.1 pc = .ok (i, len))
    (h : sp_call e i len st M = some (.inr (y, as, rest))) (hex : sp_exec G n y 0 (sp_ent (sp_ml y) as) [] M = some (r1, M1)) (hr1 : ∀ E, r1 = .inr E → sp_kd y ≠ 2)
    (hrc : cells + (M1.2.1 - M.2.1) ≤ R.cells) (hrs : slots + (M1.2.2.1 - M.2.2.1) ≤ R.slots)
    (kx : ∀ (E : String) (ce : Cell) (q9 : Addr) (H1 : Heap) (locs1 : List Loc), r1 = .inr E → sp_rel D dA A M1 H1 → va_S A s.heap H1 locs1 → H1[q9]? = some ce → ce.vm = .none → s.vm.findClass E = some ce.cls → vx_W p l e0 R s m args below meth c H1 locs1 (cells + (M1.2.1 - M.2.1)) (slots + (M1.2.2.1 - M.2.2.1)) Q (F0 m pc ls rest) q9)
    (kk : ∀ (v : Option Value) (H1 : Heap) (locs1 : List Loc), r1 = .inl v → sp_rel D dA A M1 H1 → va_S A s.heap H1 locs1 → W p l e0 R s m args below meth c H1 locs1 (cells + (M1.2.1 - M.2.1)) (slots + (M1.2.2.1 - M.2.2.1)) Q (F0 m (pc + 3) ls (v.toList ++ rest))) : W p l e0 R s m args below meth c H locs cells slots Q (F0 m pc ls st) := by
  unfold sp_call at h
  split at h
  · unfold sp_calV at h
    split at h
    · cases h
    · rename_i y' hy
      split at h
      · cases h
      · rename_i e' he'
        split at h
        · rename_i hc
          obtain ⟨b, rest', hq, hst, hlen, hobj, hsum, hea⟩ := sp_recv_of h
          cases hq
          exact sp_goV IH hlt X hml hfr hlo hS hR hls hdg hy he' hc.1 hc.2 hst hlen (hobj rfl) hsum hea hex hrc hrs kx kk
        · cases h
  · unfold sp_calI at h
    split at h
    · split at h
      · split at h <;> cases h
      · cases h
    · split at h
      · cases h
      · rename_i y' hy
        split at h
        · cases h
        · rename_i e' he'
          split at h
          · rename_i hc
            obtain ⟨b, rest', hq, hst, hlen, hobj, hsum, hea⟩ := sp_recv_of h
            cases hq
            cases r1 with
            | inr E => exact absurd ((sp_kd_of he').trans hc.1) (hr1 E rfl)
            | inl v => exact sp_goI IH hlt X hml hfr hlo hS hR hls hdg hy he' hc.1 hc.2.2 hc.2.1 hst hlen hsum hea hex hrc hrs (fun H1 locs1 h1 h2 => kk v H1 locs1 rfl h1 h2)
          · cases h
  · unfold sp_calS at h
    split at h
    · split at h
      · split at h <;> cases h
      · split at h <;> cases h
      · cases h
    · split at h
      · cases h
      · rename_i y' hy
        split at h
        · cases h
        · rename_i e' he'
          split at h
          · rename_i hc
            cases h
            obtain ⟨h1, h2, h3, h4, h5, h6⟩ := hc
            exact sp_goS IH hlt X hml hfr hlo hS hR hls hdg hy he' h1 h2 h3 (by rw [List.reverse_reverse, List.take_append_drop]) (by simp; omega) h4 h5 hex hrc hrs kx kk
          · cases h
  · cases h
set_option maxHeartbeats 4000000 in
theorem sp_sound (D : va_G) (dA : Nat → ClassId) (A : Nat → Prop) (G : sp_G) : ∀ n, sp_Snd D dA A G n := by
  intro n
  induction n with
  | zero => intro y pc L st M r M' h; cases h
  | succ n ih =>
    intro y pc L st M r M' h p l e0 R s m args below meth c H locs cells slots Q ls c0 s0 e hlt hT X hml htab hfr hlo hS hR hls hc hs hrc hrs HRet HOut HThr
    have step : ∀ (pc2 : Nat) (L2 : sp_L) (st2 : List Value) (M2 : sp_M) (H2 : Heap) (locs2 : List Loc) (cells2 slots2 : Nat) (ls2 : Array Slot), sp_exec G n y pc2 L2 st2 M2 = some (r, M') → sp_rel D dA A M2 H2 → va_S A s.heap H2 locs2 → sp_lr ls2 e.2.2.1 L2 → M2.2.1 = c0 + cells2 → M2.2.2.1 = s0 + slots2 → W p l e0 R s m args below meth c H2 locs2 cells2 slots2 Q (F0 m pc2 ls2 st2) :=
      fun pc2 L2 st2 M2 H2 locs2 cells2 slots2 ls2 hex hR2 hS2 hl2 h1 h2 => ih y pc2 L2 st2 M2 r M' hex p l e0 R s m args below meth c H2 locs2 cells2 slots2 Q ls2 c0 s0 e hlt hT X hml htab hfr hlo hS2 hR2 hl2 h1 h2 hrc hrs HRet HOut HThr
    have heT : e ∈ sp_T := List.mem_of_getElem? hT
    unfold sp_exec at h
    rw [hT] at h
    dsimp only at h
    split at h
    · rename_i q hq
      split at h
      · rename_i hsum
        cases h
        exact HThr q pc ls st H locs cells slots M hq rfl rfl hsum hR hS hc hs (hls.1.trans hml.symm)
      · cases h
    · split at h
      · cases h
      · rename_i i len hd
        split at h
        · split at h
          · cases h
          · rename_i L' st' hh
            exact sp_loc_sound X.1 X.2.1 hd hh hls (fun ls' hl' => step _ _ _ _ _ _ _ _ _ h hR hS hl' hc hs)
        · split at h
          · cases h
          · rename_i st' hh
            exact sp_stk_sound X.1 X.2.1 hd hh (step _ _ _ _ _ _ _ _ _ h hR hS hls hc hs)
        · split at h
          · cases h
          · rename_i st' hh
            exact sp_cst_sound X hd hh (step _ _ _ _ _ _ _ _ _ h hR hS hls hc hs)
        · split at h
          · cases h
          · rename_i pc' st' hh
            exact sp_jmp_sound X.1 X.2.1 hd hh (step _ _ _ _ _ _ _ _ _ h hR hS hls hc hs)
        · split at h
          · cases h
          · rename_i st' M2 hh
            have hmo := sp_exec_mono G _ _ _ _ _ _ _ _ h
            exact sp_hp_sound X hS hR hd hh (fun dc ds h1 h2 => ⟨by omega, by omega⟩) (fun H1 locs1 dc ds hrel hS1 h1 h2 => step _ _ _ _ _ _ _ _ _ h hrel hS1 hls (by omega) (by omega))
        · split at h
          · cases h
          · rename_i v hh
            cases h
            exact HRet v pc ls st H locs cells slots i len rfl hd hh hR hS hc hs
        · split at h
          · cases h
          · rename_i st' M2 hh
            obtain ⟨m1, m2⟩ := sp_call_mono hh
            have hmo := sp_exec_mono G _ _ _ _ _ _ _ _ h
            exact sp_goL X hml hfr hlo hS hR hls.1 hd hh ⟨by omega, by omega⟩ (fun H1 locs1 hrel hS1 => step _ _ _ _ _ _ _ _ _ h hrel hS1 hls (by omega) (by omega))
          · rename_i y' as rest hh
            split at h
            · cases h
            · rename_i v M1 hex
              have hm1 := sp_exec_mono G _ _ _ _ _ _ _ _ hex
              have hmo := sp_exec_mono G _ _ _ _ _ _ _ _ h
              refine sp_goC ih hlt X hml hfr hlo hS hR hls.1 hd hh hex (fun E hE => by cases hE) (by omega) (by omega) (fun E ce q9 H1 locs1 hE => by cases hE) (fun v' H1 locs1 hv hrel hS1 => ?_)
              cases hv
              exact step _ _ _ _ _ _ _ _ _ h hrel hS1 hls (by omega) (by omega)
            · rename_i E M1 hex
              have hm1 := sp_exec_mono G _ _ _ _ _ _ _ _ hex
              split at h
              · rename_i hE
                split at h
                · rename_i hnone
                  cases h
                  refine sp_goC ih hlt X hml hfr hlo hS hR hls.1 hd hh hex (fun E' _ => hE.2) (by omega) (by omega) (fun E' ce q9 H1 locs1 hE' hrel hS1 k1 k2 k3 => ?_) (fun v' H1 locs1 hv => by cases hv)
                  cases hE'
                  refine HOut E pc ls rest H1 locs1 _ _ q9 ce rfl hrel hS1 (by omega) (by omega) k1 k2 k3 ?_
                  rw [htab (Or.inr ⟨_, rfl⟩)]
                  refine sp_pass heT X hE.1 (fun q hq => hq) (fun q hq => ?_)
                  unfold sp_hdl at hnone
                  rw [Option.map_eq_none_iff, List.find?_eq_none] at hnone
                  exact Bool.eq_false_iff.mpr (hnone q hq)
                · rename_i hp hhdl
                  split at h
                  · cases h
                  · rename_i k ln hst
                    split at h
                    · rename_i hkL
                      have hmo := sp_exec_mono G _ _ _ _ _ _ _ _ h
                      refine sp_goC ih hlt X hml hfr hlo hS hR hls.1 hd hh hex (fun E' _ => hE.2) (by omega) (by omega) (fun E' ce q9 H1 locs1 hE' hrel hS1 k1 k2 k3 => ?_) (fun v' H1 locs1 hv => by cases hv)
                      cases hE'
                      unfold sp_hdl at hhdl
                      obtain ⟨q, hfind, hq⟩ := Option.map_eq_some_iff.mp hhdl
                      obtain ⟨hpq, pre, suf, hsplit, hpre⟩ := List.find?_eq_some_iff_append.mp hfind
                      rw [Bool.and_eq_true] at hpq
                      have hqm : q ∈ e.2.2.2.2.1 := by rw [hsplit]; simp
                      have h9 := (sp_hh_all e heT q hqm).2.1
                      cases h9
                    · cases h
              · cases h
        · cases h
end SPG
